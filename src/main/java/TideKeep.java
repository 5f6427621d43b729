import java.util.Arrays;

/** A beach on which sand is heaped up before the sea comes. The promises are in ../shared/DOC.md. */
public final class TideKeep {
    public static final int NONE = -1;
    public static final int RANGE = -2;
    public static final int FULL = -3;
    public static final int STATE = -4;

    private static final int MOST_CELLS = 64;
    private static final int MOST_FLAGS = 3;
    private static final int MOST_WAVES = 12;
    private static final int MOST_PLANS = 3;
    private static final int MOST_HANDS = 4;
    private static final int MOST_ACTS = 8;
    private static final int SLOTS = 3;
    private static final int MOST_MINUTES = 99;
    private static final int MOST_SEEDS = 9;
    private static final int LAST_STEP = 999;
    private static final int GREATEST_INT = 2147483647;

    private static final int SOAKED = 16;
    private static final int MOST_PACK = 4;

    private static final int DIG = 0;
    private static final int PACK = 1;
    private static final int WET = 2;
    private static final int WALL = 3;
    private static final int REST = 4;

    private static final int WORK_WALL = 0;
    private static final int WORK_DIG_FRONT = 1;
    private static final int WORK_DIG_BACK = 2;
    private static final int WORK_WET = 3;

    private final Tape tape = new Tape();
    private Beach beach = new Beach();
    private Beach otherBeach = new Beach();
    private Sea sea = new Sea();
    private Sea otherSea = new Sea();
    private final Plan[] plans = new Plan[MOST_PLANS];
    private int planCount;
    private final Shore now = new Shore();
    private final Shore[] slots = new Shore[SLOTS];
    private final boolean[] isKept = new boolean[SLOTS];
    private final Tries tries = new Tries();
    private final Trial trial = new Trial();
    private final Spill pile = new Spill();

    public TideKeep() {
        for (int i = 0; i < MOST_PLANS; i++) {
            plans[i] = new Plan();
        }
        for (int i = 0; i < SLOTS; i++) {
            slots[i] = new Shore();
        }
        now.begin(beach);
    }

    // ---- what is told

    public int feed(int a, int b, int c, int d, int e) {
        if (tape.length + 20 > Tape.ROOM) {
            return FULL;
        }
        tape.append(a);
        tape.append(b);
        tape.append(c);
        tape.append(d);
        tape.append(e);
        return tape.length;
    }

    public int end(int n) {
        if (n < 0 || n > tape.length) {
            return NONE;
        }
        tape.length = n;
        return n;
    }

    public int beach() {
        tape.startReading();
        otherBeach.readFrom(tape);
        tape.length = 0;
        if (tape.isFaulty()) {
            return NONE;
        }
        Beach read = otherBeach;
        otherBeach = beach;
        beach = read;
        planCount = 0;
        for (int i = 0; i < SLOTS; i++) {
            isKept[i] = false;
        }
        now.begin(beach);
        return beach.clauses;
    }

    public int sea() {
        tape.startReading();
        otherSea.readFrom(tape);
        tape.length = 0;
        if (tape.isFaulty()) {
            return NONE;
        }
        Sea read = otherSea;
        otherSea = sea;
        sea = read;
        return sea.clauses;
    }

    public int plan() {
        if (planCount >= MOST_PLANS) {
            tape.length = 0;
            return FULL;
        }
        tape.startReading();
        plans[planCount].readFrom(tape, beach);
        tape.length = 0;
        if (tape.isFaulty()) {
            return NONE;
        }
        planCount++;
        return planCount - 1;
    }

    public int fault(int what) {
        return switch (what) {
            case 0 -> tape.fault;
            case 1 -> tape.place;
            default -> NONE;
        };
    }

    public int told(int what) {
        if (what >= 0 && what < Beach.NUMBERS) {
            return beach.numbers[what];
        }
        int ofSea = what - 13;
        if (ofSea >= 0 && ofSea < Sea.NUMBERS) {
            return sea.numbers[ofSea];
        }
        return switch (what) {
            case 11 -> beach.flags;
            case 12 -> sea.waves;
            case 22 -> planCount;
            case 23 -> now.plan;
            default -> NONE;
        };
    }

    public int wave(int k, int what) {
        if (k < 0 || k >= sea.waves) {
            return RANGE;
        }
        return switch (what) {
            case 0 -> sea.minutes[k];
            case 1 -> sea.reaches[k];
            case 2 -> sea.levels[k];
            default -> RANGE;
        };
    }

    public int act(int plan, int hand, int k, int what) {
        if (plan < 0 || plan >= planCount) {
            return RANGE;
        }
        Plan asked = plans[plan];
        if (hand == NONE) {
            return asked.hands;
        }
        if (hand < 0 || hand >= asked.hands) {
            return RANGE;
        }
        if (k == NONE) {
            return asked.acts[hand];
        }
        if (k < 0 || k >= asked.acts[hand]) {
            return RANGE;
        }
        int at = hand * MOST_ACTS + k;
        return switch (what) {
            case 0 -> asked.kinds[at];
            case 1 -> asked.cells[at];
            case 2 -> asked.targets[at];
            default -> RANGE;
        };
    }

    // ---- minutes

    public int chance(int seed) {
        if (seed < 0) {
            return RANGE;
        }
        now.chance = seed;
        return 1;
    }

    public int work(int plan) {
        if (!isPlanOrNone(plan)) {
            return RANGE;
        }
        now.hold(plan);
        return 1;
    }

    public int pass(int n) {
        if (n < 0 || n > 360) {
            return RANGE;
        }
        Plan held = planOrNull(now.plan);
        for (int i = 0; i < n; i++) {
            now.live(beach, sea, held);
        }
        return now.minute;
    }

    public int cell(int x, int y, int what) {
        if (x < 0 || x >= beach.columns() || y < 0 || y >= beach.rows()) {
            return RANGE;
        }
        int c = y * beach.columns() + x;
        return switch (what) {
            case 0 -> now.height[c];
            case 1 -> now.wet[c];
            case 2 -> now.pack[c];
            case 3 -> now.stone[c];
            case 4 -> beach.bearing(now.wet[c], now.pack[c]);
            default -> RANGE;
        };
    }

    public int flag(int k, int what) {
        if (!isFlag(k)) {
            return RANGE;
        }
        return switch (what) {
            case 0 -> now.fell[k] == NONE ? 1 : 0;
            case 1 -> beach.flagCells[k];
            case 2 -> beach.firstHeight(beach.flagCells[k]);
            case 3 -> now.fell[k];
            default -> RANGE;
        };
    }

    public int sum(int what) {
        return switch (what) {
            case 0 -> now.heights(beach.cells());
            case 1 -> now.lost;
            case 2 -> now.minute;
            case 3 -> now.slid;
            case 4 -> now.slidLatest;
            case 5 -> now.roundsLatest;
            case 6 -> now.came;
            default -> NONE;
        };
    }

    public int keep(int slot) {
        if (slot < 0 || slot >= SLOTS) {
            return RANGE;
        }
        slots[slot].copyFrom(now);
        isKept[slot] = true;
        return now.minute;
    }

    public int take(int slot) {
        if (slot < 0 || slot >= SLOTS) {
            return RANGE;
        }
        if (!isKept[slot]) {
            return STATE;
        }
        now.copyFrom(slots[slot]);
        return now.minute;
    }

    // ---- sand

    public int holds(int wet, int pack) {
        return isSand(wet, pack) ? beach.bearing(wet, pack) : RANGE;
    }

    public int high(int b, int wet, int pack) {
        if (b < 1 || b > 40 || !isSand(wet, pack)) {
            return RANGE;
        }
        return beach.bearing(wet, pack) * ((b + 1) / 2);
    }

    public int spill(int n, int wet, int pack, int i) {
        if (n < 0 || n > 60 || !isSand(wet, pack) || i < 0 || i >= Spill.CELLS) {
            return RANGE;
        }
        pile.settle(n, beach.bearing(wet, pack));
        return pile.height[i];
    }

    public int trial(int told, int wet, int steep, int stood) {
        boolean isSound = tries.isNextStep(told) && wet >= 1 && wet <= 15
            && steep >= 1 && steep <= 30 && isAnswer(stood);
        if (!isSound) {
            return RANGE;
        }
        if (tries.count >= Tries.ROOM) {
            return FULL;
        }
        return tries.tell(told, wet, steep, stood);
    }

    public int right(int told, int k, int stood) {
        if (!tries.isNextStep(told) || k < 0 || k >= tries.count || !isAnswer(stood)) {
            return RANGE;
        }
        if (tries.rights >= Tries.MOST_RIGHTS) {
            return FULL;
        }
        return tries.putRight(told, k, stood);
    }

    public int humps(int known, int what) {
        if (known < 0 || known > LAST_STEP || what < 0 || what > 4) {
            return RANGE;
        }
        return tries.ofHumps(known, what);
    }

    public int next() {
        return tries.bestQuestion();
    }

    // ---- what would be

    public int last(int flag, int plan, int seed, int minutes) {
        if (!isFlag(flag) || !isPlanOrNone(plan) || seed < 0 || !isSpan(minutes)) {
            return RANGE;
        }
        trial.start(now, plan, seed);
        trial.watchFlag(beach, flag);
        trial.run(beach, sea, planOrNull(plan), minutes);
        return trial.lasts[0];
    }

    public int pail(int flag, int seed, int minutes) {
        if (!isFlag(flag) || seed < 0 || !isSpan(minutes)) {
            return RANGE;
        }
        return bestRow(flag, 2, seed, minutes);
    }

    public int row(int flag, int n, int seed, int minutes) {
        if (!isFlag(flag) || n < 1 || n > 4 || seed < 0 || !isSpan(minutes)) {
            return RANGE;
        }
        return bestRow(flag, n, seed, minutes);
    }

    public int again(int flag, int seed, int minutes) {
        if (!isFlag(flag) || seed < 0 || !isSpan(minutes)) {
            return RANGE;
        }
        trial.start(now, NONE, seed);
        trial.watchFlag(beach, flag);
        trial.run(beach, sea, null, minutes);
        int without = trial.lasts[0];
        int greatest = without;
        int best = NONE;
        // A wetting behind the minute in which the flag falls comes too late to change that minute.
        for (int m = 0; m <= without && m < minutes && greatest < minutes; m++) {
            trial.start(now, NONE, seed);
            trial.watchFlag(beach, flag);
            trial.setWork(m, WORK_WET);
            trial.run(beach, sea, null, minutes);
            if (trial.lasts[0] > greatest) {
                greatest = trial.lasts[0];
                best = m;
            }
        }
        return best;
    }

    public int stand(int n, int k, int minutes) {
        if (n < 1 || n > 30 || !isSeeds(k) || !isSpan(minutes)) {
            return RANGE;
        }
        int seeds = seedsThatDiffer(k);
        int best = NONE;
        int greatest = NONE;
        for (int c = 0; c < beach.cells() && greatest < seeds * minutes; c++) {
            if (now.stone[c] != 0) {
                continue;
            }
            int sum = sumOfTower(c, n, seeds, minutes);
            if (sum > greatest) {
                greatest = sum;
                best = c;
            }
        }
        return best;
    }

    public int outlasts(int a, int b, int k, int minutes, boolean isLower) {
        if (!isFlag(a) || !isFlag(b) || a == b || !isSeeds(k) || !isSpan(minutes)) {
            return RANGE;
        }
        int seeds = seedsThatDiffer(k);
        int upper = 0;
        for (int seed = 1; seed <= seeds; seed++) {
            trial.start(now, NONE, seed);
            trial.watchFlag(beach, a);
            trial.watchFlag(beach, b);
            trial.run(beach, sea, null, minutes);
            if (trial.lasts[0] > trial.lasts[1]) {
                upper++;
            }
        }
        int shared = greatestDivisor(upper, seeds);
        return isLower ? seeds / shared : upper / shared;
    }

    public int contest(int rule, int k, int minutes) {
        if (rule < 0 || rule > 1 || !isSeeds(k) || !isSpan(minutes)) {
            return RANGE;
        }
        if (beach.flags == 0) {
            return STATE;
        }
        int seeds = seedsThatDiffer(k);
        int best = NONE;
        int greatest = NONE;
        for (int p = 0; p < planCount; p++) {
            int sum = 0;
            for (int seed = 1; seed <= seeds; seed++) {
                sum += worthOfPlan(p, rule, seed, minutes);
            }
            if (sum > greatest) {
                greatest = sum;
                best = p;
            }
        }
        return best;
    }

    public int which() {
        int bits = tape.isHeights(beach.cells()) ? wavesThatFit() : NONE;
        tape.length = 0;
        return bits;
    }

    public int join(int h, int a, int r, int s, int c, int what) {
        boolean isSound = h >= 1 && h <= 99 && a >= 1 && a <= 99 && r >= 1 && r <= 50
            && s >= 1 && s <= 50 && c >= 1 && c <= 100 && what >= 0 && what <= 1;
        if (!isSound) {
            return RANGE;
        }
        int tower = unitsOfTower(h, a);
        int together = (r + s) * c;
        int bestMinute = 0;
        int soonest = GREATEST_INT;
        for (int j = 0; j <= 99; j++) {
            int left = Math.max(0, tower - r * j) + Math.max(0, tower - s * j);
            int done = j + (left * 100 + together - 1) / together;
            if (done < soonest) {
                soonest = done;
                bestMinute = j;
            }
        }
        return what == 0 ? bestMinute : soonest;
    }

    public int count(int what) {
        return switch (what) {
            case 0 -> beach.clauses;
            case 1 -> sea.clauses;
            case 2 -> tries.count;
            case 3 -> tries.rights;
            case 4 -> tape.length;
            default -> NONE;
        };
    }

    private boolean isFlag(int k) {
        return k >= 0 && k < beach.flags;
    }

    private boolean isPlanOrNone(int plan) {
        return plan >= NONE && plan < planCount;
    }

    private Plan planOrNull(int plan) {
        return plan >= 0 && plan < planCount ? plans[plan] : null;
    }

    private static boolean isSand(int wet, int pack) {
        return wet >= 0 && wet <= SOAKED && pack >= 0 && pack <= MOST_PACK;
    }

    private static boolean isAnswer(int stood) {
        return stood == 0 || stood == 1;
    }

    private static boolean isSpan(int minutes) {
        return minutes >= 1 && minutes <= MOST_MINUTES;
    }

    private static boolean isSeeds(int k) {
        return k >= 1 && k <= MOST_SEEDS;
    }

    /** Without a tide nothing is drawn: all seeds go alike, and one of them tells as much as k of them. */
    private int seedsThatDiffer(int k) {
        return sea.isDrawn() ? k : 1;
    }

    /** The row of n works with the greatest LAST, its numbers as digits. */
    private int bestRow(int flag, int n, int seed, int minutes) {
        int rows = 1 << 2 * n;
        int best = 0;
        int greatest = NONE;
        // Rows come from the least on, so none behind one that lasts all the minutes can take its place.
        for (int row = 0; row < rows && greatest < minutes; row++) {
            trial.start(now, NONE, seed);
            trial.watchFlag(beach, flag);
            for (int i = 0; i < n; i++) {
                trial.setWork(i, row >> 2 * (n - 1 - i) & 3);
            }
            trial.run(beach, sea, null, minutes);
            if (trial.lasts[0] > greatest) {
                greatest = trial.lasts[0];
                best = row;
            }
        }
        int digits = 0;
        for (int i = n - 1; i >= 0; i--) {
            digits = digits * 10 + (best >> 2 * i & 3);
        }
        return digits;
    }

    private int sumOfTower(int c, int n, int seeds, int minutes) {
        int sum = 0;
        for (int seed = 1; seed <= seeds; seed++) {
            trial.start(now, NONE, seed);
            trial.shore.heapUp(c, n);
            trial.watch(c, trial.shore.height[c] - beach.fall());
            trial.run(beach, sea, null, minutes);
            sum += trial.lasts[0];
        }
        return sum;
    }

    private int worthOfPlan(int plan, int rule, int seed, int minutes) {
        trial.start(now, plan, seed);
        if (rule == 0) {
            trial.watchFlag(beach, 0);
        }
        trial.run(beach, sea, planOrNull(plan), minutes);
        return rule == 0 ? trial.lasts[0] : trial.shore.height[beach.flagCells[0]];
    }

    private int wavesThatFit() {
        int bits = 0;
        Shore shore = trial.shore;
        for (int k = 0; k < sea.waves; k++) {
            shore.copyFrom(now);
            shore.runUp(beach, sea.reaches[k], sea.levels[k], sea.cut());
            shore.slide(beach);
            if (tape.areHeights(shore.height, beach.cells())) {
                bits |= 1 << k;
            }
        }
        return bits;
    }

    private static int unitsOfTower(int h, int a) {
        int units = h;
        for (int i = 1; i < h && h - i * a > 0; i++) {
            units += 2 * (h - i * a);
        }
        return units;
    }

    private static int greatestDivisor(int upper, int lower) {
        for (int d = lower; d > 1; d--) {
            if (upper % d == 0 && lower % d == 0) {
                return d;
            }
        }
        return 1;
    }

    private static int strengthOf(int wet, int best, int top, int loss) {
        if (wet <= 0 || wet >= SOAKED) {
            return 0;
        }
        return Math.max(0, top - loss * Math.abs(wet - best));
    }

    /** The bytes that were fed, the token that was read last, and the first fault of the text. */
    private static final class Tape {
        static final int ROOM = 900;

        static final int BAD = 0;
        static final int WORD = 1;
        static final int NUMBER = 2;
        static final int SEMICOLON = 3;
        static final int TEXT_END = 4;

        static final int SYNTAX = 1;
        static final int BOUNDS = 2;
        static final int TWICE = 3;
        static final int CROWDED = 4;
        static final int LATE = 5;

        final int[] bytes = new int[ROOM];
        int length;
        int at;
        int kind;
        int start;
        int number;
        int fault;
        int place = NONE;

        void append(int four) {
            for (int shift = 24; shift >= 0 && length < ROOM; shift -= 8) {
                bytes[length] = four >> shift & 255;
                length++;
            }
        }

        void startReading() {
            at = 0;
            fault = 0;
            place = NONE;
        }

        boolean isFaulty() {
            return fault != 0;
        }

        /** Tells a fault of the token read last; only the first one counts. */
        void refuse(int faultKind) {
            if (fault == 0) {
                fault = faultKind;
                place = start;
            }
        }

        void advance() {
            while (at < length && isBlank(bytes[at])) {
                at++;
            }
            start = at;
            number = 0;
            if (at >= length) {
                kind = TEXT_END;
                return;
            }
            kind = kindOf(bytes[at]);
            if (kind != WORD && kind != NUMBER) {
                at++;
                return;
            }
            while (at < length && kindOf(bytes[at]) == kind) {
                number = number * 10 + bytes[at] - '0';
                at++;
            }
            if (at - start > (kind == WORD ? 8 : 3)) {
                kind = BAD;
            }
        }

        private static boolean isBlank(int b) {
            return b == ' ' || b == '\n';
        }

        private static int kindOf(int b) {
            if (b >= 'a' && b <= 'z') {
                return WORD;
            }
            if (b >= '0' && b <= '9') {
                return NUMBER;
            }
            return b == ';' ? SEMICOLON : BAD;
        }

        boolean isWord(String word) {
            if (kind != WORD || at - start != word.length()) {
                return false;
            }
            for (int i = 0; i < word.length(); i++) {
                if (bytes[start + i] != word.charAt(i)) {
                    return false;
                }
            }
            return true;
        }

        /** Reads a clause's first token, if the text goes on. */
        boolean hasClause() {
            if (isFaulty()) {
                return false;
            }
            advance();
            return kind != TEXT_END;
        }

        void endClause() {
            if (isFaulty()) {
                return;
            }
            advance();
            if (kind != SEMICOLON) {
                refuse(SYNTAX);
            }
        }

        /** Reads an N; behind a fault it reads no more, so that callers may read on and look at the end. */
        int need(int least, int most) {
            if (isFaulty()) {
                return least;
            }
            advance();
            if (kind != NUMBER) {
                refuse(SYNTAX);
                return least;
            }
            if (number < least || number > most) {
                refuse(BOUNDS);
                return least;
            }
            return number;
        }

        boolean isHeights(int cells) {
            if (length != cells) {
                return false;
            }
            for (int i = 0; i < length; i++) {
                if (bytes[i] < 32 || bytes[i] > 126) {
                    return false;
                }
            }
            return true;
        }

        boolean areHeights(int[] height, int cells) {
            for (int i = 0; i < cells && i < height.length; i++) {
                if (height[i] != bytes[i] - 32) {
                    return false;
                }
            }
            return true;
        }
    }

    /** What a text of the beach tells, with what isn't told; it stays as it is while minutes pass. */
    private static final class Beach {
        // The numbers stand as told() counts them.
        static final int NUMBERS = 11;
        static final int COLUMNS = 0;
        static final int ROWS = 1;
        static final int SAND = 2;
        static final int PACKING = 3;
        static final int DRY = 4;
        static final int DAMP = 5;
        static final int FALL = 6;
        static final int TIRE = 7;
        static final int BEST = 8;
        static final int TOP = 9;
        static final int LOSS = 10;
        static final int MOST_BY_HEAPS = 59;
        private static final int[] LEAST = {1, 1, 0, 0, 1, 0, 0, 0, 1, 0, 0};
        private static final int[] MOST = {8, 8, 40, 5, 60, 16, 20, 20, 15, 20, 9};
        private static final int[] UNTOLD = {5, 5, 6, 2, 10, 4, 1, 0, 4, 6, 1};

        final int[] numbers = new int[NUMBERS];
        final int[] heaped = new int[MOST_CELLS];
        final int[] stones = new int[MOST_CELLS];
        final int[] flagCells = new int[MOST_FLAGS];
        private final int[] strength = new int[SOAKED + 1];
        int flags;
        int clauses;
        private int toldBits;
        private boolean hasThings;

        Beach() {
            clear();
            weigh();
        }

        int columns() {
            return numbers[COLUMNS];
        }

        int rows() {
            return numbers[ROWS];
        }

        int cells() {
            return numbers[COLUMNS] * numbers[ROWS];
        }

        int fall() {
            return numbers[FALL];
        }

        int firstHeight(int c) {
            return c >= 0 && c < MOST_CELLS ? numbers[SAND] + heaped[c] : 0;
        }

        /** How steep sand of this wet and pack holds. */
        int bearing(int wet, int pack) {
            int strong = wet >= 0 && wet <= SOAKED ? strength[wet] : 0;
            return 1 + strong + pack * numbers[PACKING];
        }

        void readFrom(Tape tape) {
            clear();
            for (int i = 0; i < Tape.ROOM && tape.hasClause(); i++) {
                readClause(tape);
                tape.endClause();
                clauses++;
            }
            weigh();
        }

        /** Reads a cell by its x and y; the token read last is then its y. */
        int needCell(Tape tape) {
            int x = tape.need(0, columns() - 1);
            int y = tape.need(0, rows() - 1);
            return y * columns() + x;
        }

        private void clear() {
            System.arraycopy(UNTOLD, 0, numbers, 0, NUMBERS);
            Arrays.fill(heaped, 0);
            Arrays.fill(stones, 0);
            flags = 0;
            clauses = 0;
            toldBits = 0;
            hasThings = false;
        }

        private void weigh() {
            for (int wet = 0; wet <= SOAKED; wet++) {
                strength[wet] = strengthOf(wet, numbers[BEST], numbers[TOP], numbers[LOSS]);
            }
        }

        private void readClause(Tape tape) {
            int first = firstNumberOf(tape);
            if (first != NONE) {
                readNumbers(tape, first);
            } else if (tape.isWord("heap")) {
                readHeap(tape);
            } else if (tape.isWord("stone")) {
                readStone(tape);
            } else if (tape.isWord("flag")) {
                readFlag(tape);
            } else {
                tape.refuse(Tape.SYNTAX);
            }
        }

        private static int firstNumberOf(Tape tape) {
            if (tape.isWord("beach")) {
                return COLUMNS;
            }
            if (tape.isWord("sand")) {
                return SAND;
            }
            if (tape.isWord("pack")) {
                return PACKING;
            }
            if (tape.isWord("dry")) {
                return DRY;
            }
            if (tape.isWord("damp")) {
                return DAMP;
            }
            if (tape.isWord("fall")) {
                return FALL;
            }
            if (tape.isWord("tire")) {
                return TIRE;
            }
            return tape.isWord("hump") ? BEST : NONE;
        }

        private static int howMany(int first) {
            if (first == BEST) {
                return 3;
            }
            return first == COLUMNS ? 2 : 1;
        }

        private void readNumbers(Tape tape, int first) {
            if ((toldBits >> first & 1) != 0) {
                tape.refuse(Tape.TWICE);
            } else if (first == COLUMNS && hasThings) {
                tape.refuse(Tape.LATE);
            }
            toldBits |= 1 << first;
            int end = Math.min(NUMBERS, first + howMany(first));
            for (int i = first; i < end; i++) {
                numbers[i] = tape.need(LEAST[i], MOST[i]);
            }
        }

        private void readHeap(Tape tape) {
            int units = tape.need(1, 40);
            int c = needCell(tape);
            if (tape.isFaulty() || c >= MOST_CELLS) {
                return;
            }
            if (heaped[c] + units > MOST_BY_HEAPS) {
                tape.refuse(Tape.BOUNDS);
            }
            heaped[c] += units;
            hasThings = true;
        }

        private void readStone(Tape tape) {
            int c = needCell(tape);
            if (tape.isFaulty() || c >= MOST_CELLS) {
                return;
            }
            if (stones[c] != 0) {
                tape.refuse(Tape.TWICE);
            }
            stones[c] = 1;
            hasThings = true;
        }

        private void readFlag(Tape tape) {
            if (flags >= MOST_FLAGS) {
                tape.refuse(Tape.CROWDED);
                return;
            }
            int c = needCell(tape);
            if (tape.isFaulty()) {
                return;
            }
            for (int k = 0; k < flags; k++) {
                if (flagCells[k] == c) {
                    tape.refuse(Tape.TWICE);
                }
            }
            flagCells[flags] = c;
            flags++;
            hasThings = true;
        }
    }

    /** What a text of the sea tells, with what isn't told. */
    private static final class Sea {
        // The numbers stand as told() counts them from 13 on.
        static final int NUMBERS = 9;
        static final int FROM = 0;
        static final int TO = 1;
        static final int EACH = 2;
        static final int PERCENT = 3;
        static final int REACH_LEAST = 4;
        static final int REACH_MOST = 5;
        static final int LEVEL_LEAST = 6;
        static final int LEVEL_MOST = 7;
        static final int CUT = 8;
        static final int LAST_MINUTE = 359;
        private static final int[] LEAST = {0, 0, 1, 0, 1, 1, 0, 0, 0};
        private static final int[] MOST = {LAST_MINUTE, LAST_MINUTE, 60, 100, 8, 8, 99, 99, 9};
        private static final int[] UNTOLD = {NONE, NONE, NONE, NONE, 1, 3, 4, 8, 1};

        final int[] numbers = new int[NUMBERS];
        final int[] minutes = new int[MOST_WAVES];
        final int[] reaches = new int[MOST_WAVES];
        final int[] levels = new int[MOST_WAVES];
        int waves;
        int clauses;
        private int toldBits;

        Sea() {
            clear();
        }

        int cut() {
            return numbers[CUT];
        }

        boolean isDrawn() {
            return numbers[FROM] != NONE;
        }

        boolean isTideMinute(int minute) {
            int each = numbers[EACH];
            return each > 0 && minute >= numbers[FROM] && minute <= numbers[TO]
                && (minute - numbers[FROM]) % each == 0;
        }

        void readFrom(Tape tape) {
            clear();
            for (int i = 0; i < Tape.ROOM && tape.hasClause(); i++) {
                readClause(tape);
                tape.endClause();
                clauses++;
            }
        }

        private void clear() {
            System.arraycopy(UNTOLD, 0, numbers, 0, NUMBERS);
            waves = 0;
            clauses = 0;
            toldBits = 0;
        }

        private void readClause(Tape tape) {
            if (tape.isWord("wave")) {
                readWave(tape);
            } else if (tape.isWord("tide")) {
                readNumbers(tape, FROM, 4);
            } else if (tape.isWord("reach")) {
                readNumbers(tape, REACH_LEAST, 2);
            } else if (tape.isWord("level")) {
                readNumbers(tape, LEVEL_LEAST, 2);
            } else if (tape.isWord("cut")) {
                readNumbers(tape, CUT, 1);
            } else {
                tape.refuse(Tape.SYNTAX);
            }
        }

        private void readWave(Tape tape) {
            if (waves >= MOST_WAVES) {
                tape.refuse(Tape.CROWDED);
                return;
            }
            minutes[waves] = tape.need(0, LAST_MINUTE);
            reaches[waves] = tape.need(LEAST[REACH_MOST], MOST[REACH_MOST]);
            levels[waves] = tape.need(LEAST[LEVEL_MOST], MOST[LEVEL_MOST]);
            waves++;
        }

        private void readNumbers(Tape tape, int first, int howMany) {
            if ((toldBits >> first & 1) != 0) {
                tape.refuse(Tape.TWICE);
            }
            toldBits |= 1 << first;
            int end = Math.min(NUMBERS, first + howMany);
            for (int i = first; i < end; i++) {
                int least = isEndOfSpan(i) ? numbers[i - 1] : LEAST[i];
                numbers[i] = tape.need(least, MOST[i]);
            }
        }

        private static boolean isEndOfSpan(int i) {
            return i == TO || i == REACH_MOST || i == LEVEL_MOST;
        }
    }

    /** Hands and their acts: act k of hand h stands at h times eight, and k. */
    private static final class Plan {
        final int[] acts = new int[MOST_HANDS];
        final int[] kinds = new int[MOST_HANDS * MOST_ACTS];
        final int[] cells = new int[MOST_HANDS * MOST_ACTS];
        final int[] targets = new int[MOST_HANDS * MOST_ACTS];
        int hands;

        void readFrom(Tape tape, Beach beach) {
            hands = 0;
            for (int i = 0; i < Tape.ROOM && tape.hasClause(); i++) {
                readHand(tape, beach);
            }
        }

        private void readHand(Tape tape, Beach beach) {
            if (!tape.isWord("hand")) {
                tape.refuse(Tape.SYNTAX);
                return;
            }
            if (hands >= MOST_HANDS) {
                tape.refuse(Tape.CROWDED);
                return;
            }
            acts[hands] = 0;
            tape.advance();
            for (int k = 0; k <= MOST_ACTS && !tape.isFaulty(); k++) {
                if (k > 0 && tape.kind == Tape.SEMICOLON) {
                    break;
                }
                readAct(tape, beach);
                tape.advance();
            }
            hands++;
        }

        private void readAct(Tape tape, Beach beach) {
            int kind = kindOf(tape);
            if (kind == NONE) {
                tape.refuse(Tape.SYNTAX);
                return;
            }
            if (acts[hands] >= MOST_ACTS) {
                tape.refuse(Tape.CROWDED);
                return;
            }
            int at = hands * MOST_ACTS + acts[hands];
            kinds[at] = kind;
            cells[at] = kind == REST ? NONE : beach.needCell(tape);
            targets[at] = kind == DIG ? beach.needCell(tape) : NONE;
            if (kind == DIG && targets[at] == cells[at]) {
                tape.refuse(Tape.TWICE);
            }
            acts[hands]++;
        }

        private static int kindOf(Tape tape) {
            if (tape.isWord("dig")) {
                return DIG;
            }
            if (tape.isWord("pack")) {
                return PACK;
            }
            if (tape.isWord("wet")) {
                return WET;
            }
            if (tape.isWord("wall")) {
                return WALL;
            }
            return tape.isWord("rest") ? REST : NONE;
        }
    }

    /** All that minutes change, the plan that holds and the chance. */
    private static final class Shore {
        private static final int MOST_ROUNDS = 50;

        final int[] height = new int[MOST_CELLS];
        final int[] wet = new int[MOST_CELLS];
        final int[] pack = new int[MOST_CELLS];
        final int[] stone = new int[MOST_CELLS];
        final int[] fell = new int[MOST_FLAGS];
        private final int[] nextAct = new int[MOST_HANDS];
        private final int[] actsSinceRest = new int[MOST_HANDS];
        int plan = NONE;
        int chance = 1;
        int minute;
        int lost;
        int slid;
        int slidLatest;
        int roundsLatest;
        int came;
        // True while nothing has changed since a round in which no unit went: no other round can move one.
        private boolean isSettled;

        /** A beach as it is told, in minute 0; the chance stays. */
        void begin(Beach beach) {
            for (int c = 0; c < MOST_CELLS; c++) {
                height[c] = beach.firstHeight(c);
                stone[c] = beach.stones[c];
            }
            Arrays.fill(wet, beach.numbers[Beach.DAMP]);
            Arrays.fill(pack, 0);
            Arrays.fill(fell, NONE);
            hold(NONE);
            minute = 0;
            lost = 0;
            slid = 0;
            slidLatest = 0;
            roundsLatest = 0;
            came = 0;
            isSettled = false;
        }

        void copyFrom(Shore other) {
            System.arraycopy(other.height, 0, height, 0, MOST_CELLS);
            System.arraycopy(other.wet, 0, wet, 0, MOST_CELLS);
            System.arraycopy(other.pack, 0, pack, 0, MOST_CELLS);
            System.arraycopy(other.stone, 0, stone, 0, MOST_CELLS);
            System.arraycopy(other.fell, 0, fell, 0, MOST_FLAGS);
            System.arraycopy(other.nextAct, 0, nextAct, 0, MOST_HANDS);
            System.arraycopy(other.actsSinceRest, 0, actsSinceRest, 0, MOST_HANDS);
            plan = other.plan;
            chance = other.chance;
            minute = other.minute;
            lost = other.lost;
            slid = other.slid;
            slidLatest = other.slidLatest;
            roundsLatest = other.roundsLatest;
            came = other.came;
            isSettled = other.isSettled;
        }

        void hold(int number) {
            plan = number;
            Arrays.fill(nextAct, 0);
            Arrays.fill(actsSinceRest, 0);
        }

        int heights(int cells) {
            int sum = 0;
            for (int c = 0; c < cells && c < MOST_CELLS; c++) {
                sum += height[c];
            }
            return sum;
        }

        /** A minute; held is null where no plan holds. */
        void live(Beach beach, Sea sea, Plan held) {
            if (held != null) {
                moveHands(held, beach.numbers[Beach.TIRE]);
            }
            meetWaves(beach, sea);
            int dry = beach.numbers[Beach.DRY];
            if (dry > 0 && (minute + 1) % dry == 0) {
                shine(beach);
            }
            slide(beach);
            dropFlags(beach);
            minute++;
        }

        private void moveHands(Plan held, int tire) {
            for (int h = 0; h < held.hands && h < MOST_HANDS; h++) {
                if (tire > 0 && actsSinceRest[h] >= tire) {
                    actsSinceRest[h] = 0;
                    continue;
                }
                int k = nextAct[h] < held.acts[h] ? nextAct[h] : 0;
                int at = h * MOST_ACTS + k;
                perform(held.kinds[at], held.cells[at], held.targets[at]);
                nextAct[h] = k + 1;
                actsSinceRest[h]++;
            }
        }

        void perform(int kind, int c, int target) {
            if (kind == REST || !isPlace(c)) {
                return;
            }
            isSettled = false;
            if (kind == DIG) {
                dig(c, target);
            } else if (kind == PACK) {
                pack[c] = Math.min(MOST_PACK, pack[c] + 1);
            } else if (kind == WET) {
                wet[c] = Math.min(SOAKED - 1, wet[c] + 4);
            } else if (kind == WALL) {
                stone[c] = 1;
            }
        }

        private static boolean isPlace(int c) {
            return c >= 0 && c < MOST_CELLS;
        }

        private void dig(int from, int to) {
            if (!isPlace(to) || height[from] < 1 || stone[from] != 0 || stone[to] != 0) {
                return;
            }
            moveUnit(from, to);
            pack[from] = 0;
        }

        private void moveUnit(int from, int to) {
            int under = height[to] > 0 ? height[to] : 0;
            wet[to] = (wet[to] * under + wet[from]) / (under + 1);
            pack[to] = 0;
            height[from]--;
            height[to]++;
        }

        void heapUp(int c, int units) {
            if (isPlace(c)) {
                height[c] += units;
                isSettled = false;
            }
        }

        private void meetWaves(Beach beach, Sea sea) {
            for (int k = 0; k < sea.waves && k < MOST_WAVES; k++) {
                if (sea.minutes[k] == minute) {
                    runUp(beach, sea.reaches[k], sea.levels[k], sea.cut());
                }
            }
            if (sea.isTideMinute(minute) && draw(100) < sea.numbers[Sea.PERCENT]) {
                int reach = drawFrom(sea.numbers[Sea.REACH_LEAST], sea.numbers[Sea.REACH_MOST]);
                int level = drawFrom(sea.numbers[Sea.LEVEL_LEAST], sea.numbers[Sea.LEVEL_MOST]);
                runUp(beach, reach, level, sea.cut());
            }
        }

        private int draw(int n) {
            chance = 1103515245 * chance + 12345 & GREATEST_INT;
            return n > 0 ? (chance >> 16) % n : 0;
        }

        private int drawFrom(int least, int greatest) {
            return least + draw(greatest - least + 1);
        }

        /** A wave in all columns. */
        void runUp(Beach beach, int reach, int level, int cut) {
            came++;
            for (int x = 0; x < beach.columns(); x++) {
                runUpColumn(beach, x, reach, level, cut);
            }
        }

        private void runUpColumn(Beach beach, int x, int reach, int level, int cut) {
            int columns = beach.columns();
            int cells = beach.cells();
            int c = x;
            for (int y = 0; y < reach && c < cells; y++) {
                if (stone[c] != 0) {
                    if (c + columns < cells) {
                        soak(c + columns);
                    }
                    return;
                }
                soak(c);
                if (height[c] > level) {
                    carryOff(c, Math.min(cut, height[c]));
                    return;
                }
                c += columns;
            }
        }

        private void soak(int c) {
            if (wet[c] != SOAKED) {
                wet[c] = SOAKED;
                isSettled = false;
            }
        }

        private void carryOff(int c, int units) {
            if (units > 0) {
                height[c] -= units;
                lost += units;
                isSettled = false;
            }
        }

        private void shine(Beach beach) {
            int cells = beach.cells();
            for (int c = beach.columns(); c < cells; c++) {
                if (wet[c] > 0) {
                    wet[c] = Math.max(0, wet[c] - (height[c] >= 10 ? 2 : 1));
                    isSettled = false;
                }
            }
        }

        void slide(Beach beach) {
            int columns = beach.columns();
            int rows = beach.rows();
            slidLatest = 0;
            roundsLatest = 0;
            for (int round = 0; round < MOST_ROUNDS && !isSettled; round++) {
                int went = 0;
                int c = 0;
                for (int y = 0; y < rows; y++) {
                    for (int x = 0; x < columns; x++) {
                        // By HOLDS of at least 1, no unit goes from a height below 2.
                        if (height[c] > 1 && stone[c] == 0) {
                            went += slideFrom(beach, c, x);
                        }
                        c++;
                    }
                }
                slidLatest += went;
                roundsLatest += went > 0 ? 1 : 0;
                isSettled = went == 0;
            }
            slid += slidLatest;
        }

        /** How many units go from this cell in a round: 1 or 0. */
        private int slideFrom(Beach beach, int c, int x) {
            int to = lowestBeside(beach, c, x);
            if (to == NONE || height[c] - height[to] <= beach.bearing(wet[c], pack[c])) {
                return 0;
            }
            moveUnit(c, to);
            return 1;
        }

        private int lowestBeside(Beach beach, int c, int x) {
            int columns = beach.columns();
            int lowest = NONE;
            if (c >= columns) {
                lowest = lowerOf(lowest, c - columns);
            }
            if (x > 0) {
                lowest = lowerOf(lowest, c - 1);
            }
            if (x + 1 < columns) {
                lowest = lowerOf(lowest, c + 1);
            }
            if (c + columns < beach.cells()) {
                lowest = lowerOf(lowest, c + columns);
            }
            return lowest;
        }

        /** The lower of two cells, the first one if they are alike; a stone is no place to go to. */
        private int lowerOf(int lowest, int c) {
            if (stone[c] != 0 || lowest != NONE && height[lowest] <= height[c]) {
                return lowest;
            }
            return c;
        }

        private void dropFlags(Beach beach) {
            for (int k = 0; k < beach.flags && k < MOST_FLAGS; k++) {
                int c = beach.flagCells[k];
                if (fell[k] == NONE && height[c] < beach.firstHeight(c) - beach.fall()) {
                    fell[k] = minute;
                }
            }
        }
    }

    /** A shore that goes on from now, apart from it, while up to two flags are watched. */
    private static final class Trial {
        final Shore shore = new Shore();
        final int[] lasts = new int[2];
        private final int[] watchedCells = new int[2];
        private final int[] floors = new int[2];
        private final int[] works = new int[MOST_MINUTES];
        private int watched;
        private int standing;

        void start(Shore now, int plan, int seed) {
            shore.copyFrom(now);
            shore.hold(plan);
            shore.chance = seed;
            Arrays.fill(works, NONE);
            watched = 0;
        }

        void watchFlag(Beach beach, int flag) {
            int c = beach.flagCells[flag];
            // No height reaches the floor of a flag that fell already: it stands behind none of the minutes.
            boolean isDown = shore.fell[flag] != NONE;
            watch(c, isDown ? GREATEST_INT : beach.firstHeight(c) - beach.fall());
        }

        void watch(int c, int floor) {
            if (watched < 2) {
                watchedCells[watched] = c;
                floors[watched] = floor;
                watched++;
            }
        }

        /** A work of the first watched flag in a minute of the trial. */
        void setWork(int minute, int work) {
            if (minute >= 0 && minute < MOST_MINUTES) {
                works[minute] = work;
            }
        }

        /** Goes on until the minutes are over or all watched flags have fallen. */
        void run(Beach beach, Sea sea, Plan plan, int minutes) {
            standing = watched;
            for (int w = 0; w < watched; w++) {
                lasts[w] = NONE;
            }
            for (int m = 0; m < minutes && (watched == 0 || standing > 0); m++) {
                if (m < MOST_MINUTES && works[m] != NONE) {
                    doWork(beach, works[m]);
                }
                shore.live(beach, sea, plan);
                lookAtFlags(m);
            }
            for (int w = 0; w < watched; w++) {
                if (lasts[w] == NONE) {
                    lasts[w] = minutes;
                }
            }
        }

        private void doWork(Beach beach, int work) {
            int c = watchedCells[0];
            int front = c - beach.columns();
            int back = c + beach.columns();
            if (work == WORK_WET) {
                shore.perform(WET, c, NONE);
            } else if (work == WORK_DIG_BACK && back < beach.cells()) {
                shore.perform(DIG, back, c);
            } else if (work == WORK_DIG_FRONT && front >= 0) {
                shore.perform(DIG, front, c);
            } else if (work == WORK_WALL && front >= 0) {
                shore.perform(WALL, front, NONE);
            }
        }

        private void lookAtFlags(int m) {
            for (int w = 0; w < watched; w++) {
                if (lasts[w] == NONE && shore.height[watchedCells[w]] < floors[w]) {
                    lasts[w] = m;
                    standing--;
                }
            }
        }
    }

    /** Units on the middle of nine cells in a row. */
    private static final class Spill {
        static final int CELLS = 9;
        // A unit that goes makes the squares of the heights at least 2 less: of 60 units, 3600 at first.
        private static final int MOST_ROUNDS = 2000;

        final int[] height = new int[CELLS];

        void settle(int units, int bearing) {
            Arrays.fill(height, 0);
            height[CELLS / 2] = units;
            boolean hasMoved = true;
            for (int round = 0; round < MOST_ROUNDS && hasMoved; round++) {
                hasMoved = false;
                for (int i = 0; i < CELLS; i++) {
                    int to = lowestBeside(i);
                    if (height[i] - height[to] > bearing) {
                        height[i]--;
                        height[to]++;
                        hasMoved = true;
                    }
                }
            }
        }

        private int lowestBeside(int i) {
            if (i <= 0) {
                return 1;
            }
            if (i >= CELLS - 1) {
                return CELLS - 2;
            }
            return height[i + 1] < height[i - 1] ? i + 1 : i - 1;
        }
    }

    /** Sand that was tried, what was put right of it, and the humps that fit. */
    private static final class Tries {
        static final int ROOM = 16;
        static final int MOST_RIGHTS = 20;
        private static final int BESTS = 15;
        private static final int TOPS = 20;
        private static final int LOSSES = 5;
        private static final int MOST_STEEP = 30;
        private static final int STRENGTHS = TOPS + 1;

        int count;
        int rights;
        private int latestStep;
        private final int[] steps = new int[ROOM];
        private final int[] wets = new int[ROOM];
        private final int[] steeps = new int[ROOM];
        private final int[] stoods = new int[ROOM];
        private final int[] rightSteps = new int[MOST_RIGHTS];
        private final int[] rightOf = new int[MOST_RIGHTS];
        private final int[] rightStoods = new int[MOST_RIGHTS];
        // How each one stood as known at the step that is asked for; NONE if it wasn't told by then.
        private final int[] known = new int[ROOM];
        // How many humps that fit give a strength, for each wet: at wet times STRENGTHS, and the strength.
        private final int[] tally = new int[SOAKED * STRENGTHS];

        boolean isNextStep(int step) {
            return step >= latestStep && step <= LAST_STEP;
        }

        int tell(int step, int wet, int steep, int stood) {
            if (count >= ROOM) {
                return FULL;
            }
            steps[count] = step;
            wets[count] = wet;
            steeps[count] = steep;
            stoods[count] = stood;
            latestStep = step;
            count++;
            return count - 1;
        }

        /** Puts one right, and tells how often that one was. */
        int putRight(int step, int k, int stood) {
            if (rights >= MOST_RIGHTS) {
                return FULL;
            }
            rightSteps[rights] = step;
            rightOf[rights] = k;
            rightStoods[rights] = stood;
            latestStep = step;
            rights++;
            int often = 0;
            for (int i = 0; i < rights; i++) {
                often += rightOf[i] == k ? 1 : 0;
            }
            return often;
        }

        private void lookBackTo(int step) {
            for (int k = 0; k < count; k++) {
                known[k] = steps[k] <= step ? stoods[k] : NONE;
            }
            for (int i = 0; i < rights; i++) {
                if (rightSteps[i] <= step && rightOf[i] < ROOM) {
                    known[rightOf[i]] = rightStoods[i];
                }
            }
        }

        private boolean fits(int best, int top, int loss) {
            for (int k = 0; k < count; k++) {
                int stands = steeps[k] <= 1 + strengthOf(wets[k], best, top, loss) ? 1 : 0;
                if (known[k] != NONE && known[k] != stands) {
                    return false;
                }
            }
            return true;
        }

        int ofHumps(int step, int what) {
            lookBackTo(step);
            int howMany = 0;
            int leastBest = NONE;
            int greatestBest = NONE;
            int leastTop = NONE;
            int greatestTop = NONE;
            for (int best = 1; best <= BESTS; best++) {
                for (int top = 0; top <= TOPS; top++) {
                    int fitting = howManyFit(best, top);
                    if (fitting > 0) {
                        howMany += fitting;
                        leastBest = leastBest == NONE ? best : leastBest;
                        greatestBest = best;
                        leastTop = leastTop == NONE ? top : Math.min(leastTop, top);
                        greatestTop = Math.max(greatestTop, top);
                    }
                }
            }
            return switch (what) {
                case 0 -> howMany;
                case 1 -> leastBest;
                case 2 -> greatestBest;
                case 3 -> leastTop;
                default -> greatestTop;
            };
        }

        private int howManyFit(int best, int top) {
            int fitting = 0;
            for (int loss = 1; loss <= LOSSES; loss++) {
                fitting += fits(best, top, loss) ? 1 : 0;
            }
            return fitting;
        }

        /** The wet and steepness that parts the humps that fit most evenly. */
        int bestQuestion() {
            int all = tallyAll();
            int least = all;
            int question = NONE;
            for (int wet = 1; wet < SOAKED; wet++) {
                int stands = all;
                for (int steep = 1; steep <= MOST_STEEP; steep++) {
                    stands -= weakerBy(wet, steep);
                    int greater = Math.max(stands, all - stands);
                    if (greater < least) {
                        least = greater;
                        question = 100 * wet + steep;
                    }
                }
            }
            return question;
        }

        /** How many humps let sand stand one less steep than this, but not as steep as this. */
        private int weakerBy(int wet, int steep) {
            int strength = steep - 2;
            return strength >= 0 && strength < STRENGTHS ? tally[wet * STRENGTHS + strength] : 0;
        }

        private int tallyAll() {
            lookBackTo(LAST_STEP);
            Arrays.fill(tally, 0);
            int all = 0;
            for (int best = 1; best <= BESTS; best++) {
                for (int top = 0; top <= TOPS; top++) {
                    for (int loss = 1; loss <= LOSSES; loss++) {
                        if (fits(best, top, loss)) {
                            all++;
                            tallyHump(best, top, loss);
                        }
                    }
                }
            }
            return all;
        }

        private void tallyHump(int best, int top, int loss) {
            for (int wet = 1; wet < SOAKED; wet++) {
                tally[wet * STRENGTHS + strengthOf(wet, best, top, loss)]++;
            }
        }
    }
}
