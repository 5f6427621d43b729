/** Edges of STRENGTH and HOLDS, of towers, of heaps that spill, and of HUMPS found by TRIALS. */
final class SandEdges {
    private SandEdges() {
    }

    static void all() {
        sand();
        tried();
        humps();
    }

    private static void sand() {
        Edges.edge("Terms II", "Of WET w the STRENGTH is 0, if w is 0 or 16", SandEdges::noStrength);
        Edges.edge("Terms II", "else top less loss times how far w is from best, 0 at least", SandEdges::strength);
        Edges.edge("Terms II", "HOLDS: 1, and STRENGTH, and pack times PACK", SandEdges::holds);
        Edges.edge("Promise 19", "HOLDS of a WET (0 .. 16) and PACK (0 .. 4); RANGE", SandEdges::wrongHolds);
        Edges.edge("Terms III", "the middle one (of two the first) as high as a times how far it is to the nearer end"
            + " outside the row", SandEdges::high);
        Edges.edge("Promise 20", "HIGH of b CELLS (1 .. 40) by a WET and PACK; RANGE", SandEdges::wrongHigh);
        Edges.edge("Terms III", "SPILL: n units put on the middle of 9 CELLS in a row without sand", SandEdges::middle);
        Edges.edge("Terms III", "of one WET and PACK (that stay as they are)", SandEdges::staysAsItIs);
        Edges.edge("Terms III", "CELL by CELL from the left on, as above, but as many ROUNDS as it takes",
            SandEdges::asManyRounds);
        Edges.edge("Terms III", "beyond both ends nothing goes", SandEdges::beyondEnds);
        Edges.edge("Promise 21", "SPILL of n units (0 .. 60) by a WET and PACK: how many are on CELL i (0 .. 8); RANGE",
            SandEdges::wrongSpill);
    }

    private static void tried() {
        Edges.edge("Terms III", "TRIED, at most 16, numbered from 0", SandEdges::sixteen);
        Edges.edge("Terms III", "sand of a WET 1 .. 15 stood as steep as 1 .. 30 (1) or not (0)",
            SandEdges::triedBounds);
        Edges.edge("Terms III", "it stands just if that is at most 1 and STRENGTH", SandEdges::stands);
        Edges.edge("Terms III", "told at a STEP of telling (0 .. 999, never falling; of TRIED and RIGHT together)",
            SandEdges::steps);
        Edges.edge("Terms III", "perhaps put RIGHT later (whether it stood)", SandEdges::putRight);
        Edges.edge("Promise 22", "TRIED: its number; RANGE; FULL", SandEdges::wrongTrial);
        Edges.edge("Promise 23", "One of these is put RIGHT at a STEP: how often it was", SandEdges::howOften);
        Edges.edge("Promise 23", "RANGE; FULL: the 21st in all", SandEdges::wrongRight);
    }

    private static void humps() {
        Edges.edge("Terms III", "HUMPS: best 1 .. 15, top 0 .. 20, loss 1 .. 5, hidden from here on",
            SandEdges::allHumps);
        Edges.edge("Terms III", "FIT as known at a STEP", SandEdges::asKnown);
        Edges.edge("Promise 24", "what 0: how many, 1: the least best (NONE), 2: the greatest best (NONE),"
            + " 3: the least top (NONE), 4: the greatest top (NONE)", SandEdges::leastAndGreatest);
        Edges.edge("Promise 24", "4: the greatest top (NONE); RANGE", SandEdges::wrongHumps);
        Edges.edge("Terms III", "NEXT: WET and steepness for which of all that FIT (all that is known) the greater number"
            + " with one answer is least", SandEdges::next);
        Edges.edge("Terms III", "of alike ones the least WET, then steepness", SandEdges::leastQuestion);
        Edges.edge("Terms III", "none if none parts them", SandEdges::noQuestion);
        Edges.edge("Promise 25", "NEXT: 100 times the WET, and the steepness; NONE", SandEdges::nextOrNone);
    }

    private static void dueHolds(String hump, int[] want) {
        TideKeep keep = Checks.on("hump " + hump + ";", "");
        for (int wet = 0; wet <= 16; wet++) {
            Checks.due("holds(" + wet + ", 0) by hump " + hump, keep.holds(wet, 0), want[wet]);
        }
    }

    private static void noStrength() {
        dueHolds("1 20 0", new int[] {1, 21, 21, 21, 21, 21, 21, 21, 21, 21, 21, 21, 21, 21, 21, 21, 1});
        dueHolds("15 7 0", new int[] {1, 8, 8, 8, 8, 8, 8, 8, 8, 8, 8, 8, 8, 8, 8, 8, 1});
        TideKeep dry = Checks.on("beach 1 1; damp 0; hump 1 20 0;", "");
        Checks.due("HOLDS of a dry cell", dry.cell(0, 0, 4), 1);
        TideKeep soaked = Checks.on("beach 1 1; damp 16; hump 15 20 0;", "");
        Checks.due("HOLDS of a soaked cell", soaked.cell(0, 0, 4), 1);
        TideKeep damp = Checks.on("beach 1 1; damp 15; hump 15 20 0;", "");
        Checks.due("HOLDS of a wet cell", damp.cell(0, 0, 4), 21);
    }

    private static void strength() {
        dueHolds("15 20 9", new int[] {1, 1, 1, 1, 1, 1, 1, 1, 1, 1, 1, 1, 1, 3, 12, 21, 1});
        dueHolds("1 20 9", new int[] {1, 21, 12, 3, 1, 1, 1, 1, 1, 1, 1, 1, 1, 1, 1, 1, 1});
        dueHolds("8 7 1", new int[] {1, 1, 2, 3, 4, 5, 6, 7, 8, 7, 6, 5, 4, 3, 2, 1, 1});
        dueHolds("8 6 3", new int[] {1, 1, 1, 1, 1, 1, 1, 4, 7, 4, 1, 1, 1, 1, 1, 1, 1});
        dueHolds("8 0 0", new int[] {1, 1, 1, 1, 1, 1, 1, 1, 1, 1, 1, 1, 1, 1, 1, 1, 1});
    }

    private static void holds() {
        int[] packs = {0, 1, 5};
        for (int packing : packs) {
            TideKeep keep = Checks.on("hump 8 20 3; pack " + packing + ";", "");
            for (int pack = 0; pack <= 4; pack++) {
                Checks.due("dry", keep.holds(0, pack), 1 + packing * pack);
                Checks.due("best", keep.holds(8, pack), 21 + packing * pack);
                Checks.due("beside the best", keep.holds(9, pack), 18 + packing * pack);
                Checks.due("soaked", keep.holds(16, pack), 1 + packing * pack);
            }
        }
        TideKeep most = Checks.on("beach 1 1; damp 8; dry 60; hump 8 20 3; pack 5;", "");
        Checks.plan(most, "hand pack 0 0;");
        most.work(0);
        most.pass(9);
        Checks.due("the most of a cell", most.cell(0, 0, 4), 41);
    }

    private static void wrongHolds() {
        TideKeep keep = new TideKeep();
        Edges.bounds("WET", wet -> keep.holds(wet, 0), 0, 16);
        Edges.bounds("PACK", pack -> keep.holds(4, pack), 0, 4);
        Edges.refused("both", keep.holds(17, 5));
    }

    private static void high() {
        // By HOLDS 1 and 4: how far the middle one is to the nearer end outside.
        TideKeep keep = Checks.on("hump 8 3 0;", "");
        int[] cells = {1, 2, 3, 4, 5, 6, 7, 38, 39, 40};
        int[] far = {1, 1, 2, 2, 3, 3, 4, 19, 20, 20};
        for (int i = 0; i < cells.length; i++) {
            Checks.due("high(" + cells[i] + ", 0, 0)", keep.high(cells[i], 0, 0), far[i]);
            Checks.due("high(" + cells[i] + ", 8, 0)", keep.high(cells[i], 8, 0), 4 * far[i]);
        }
        TideKeep most = Checks.on("hump 8 20 0; pack 5;", "");
        Checks.due("the highest of all", most.high(40, 8, 4), 41 * 20);
    }

    private static void wrongHigh() {
        TideKeep keep = new TideKeep();
        Edges.bounds("b", b -> keep.high(b, 4, 0), 1, 40);
        Edges.bounds("WET", wet -> keep.high(5, wet, 0), 0, 16);
        Edges.bounds("PACK", pack -> keep.high(5, 4, pack), 0, 4);
    }

    private static void dueSpill(TideKeep keep, int n, int wet, int pack, int[] want) {
        for (int i = 0; i < 9; i++) {
            Checks.due("spill(" + n + ", " + wet + ", " + pack + ", " + i + ")", keep.spill(n, wet, pack, i), want[i]);
        }
    }

    private static void middle() {
        TideKeep keep = Checks.on("hump 8 20 0; pack 1;", "");
        dueSpill(keep, 0, 0, 0, new int[9]);
        dueSpill(keep, 1, 0, 0, new int[] {0, 0, 0, 0, 1, 0, 0, 0, 0});
        dueSpill(keep, 2, 0, 0, new int[] {0, 0, 0, 1, 1, 0, 0, 0, 0});
        dueSpill(keep, 3, 0, 0, new int[] {0, 0, 0, 1, 1, 1, 0, 0, 0});
        dueSpill(keep, 4, 0, 0, new int[] {0, 0, 0, 1, 2, 1, 0, 0, 0});
        dueSpill(keep, 21, 8, 0, new int[] {0, 0, 0, 0, 21, 0, 0, 0, 0});
        dueSpill(keep, 22, 8, 0, new int[] {0, 0, 0, 1, 21, 0, 0, 0, 0});
        TideKeep sandy = Checks.on("sand 40; hump 8 20 0; pack 1; heap 40 2 2; stone 1 1;", "");
        dueSpill(sandy, 3, 0, 0, new int[] {0, 0, 0, 1, 1, 1, 0, 0, 0});
        Checks.due("the beach stays", sandy.sum(0), 25 * 40 + 40);
        Checks.due("nothing slid there", sandy.sum(3) + sandy.sum(4), 0);
    }

    private static void staysAsItIs() {
        TideKeep keep = Checks.on("hump 8 20 0; pack 5;", "");
        // By HOLDS 21: 60 goes by turns left and right until 34 less 13 is 21.
        dueSpill(keep, 60, 8, 0, new int[] {0, 0, 0, 13, 34, 13, 0, 0, 0});
        dueSpill(keep, 60, 0, 4, new int[] {0, 0, 0, 13, 34, 13, 0, 0, 0});
        dueSpill(keep, 60, 16, 4, new int[] {0, 0, 0, 13, 34, 13, 0, 0, 0});
        // By HOLDS 41 until 47 less 6 is 41, the left one ahead.
        dueSpill(keep, 60, 8, 4, new int[] {0, 0, 0, 7, 47, 6, 0, 0, 0});
    }

    private static void asManyRounds() {
        TideKeep keep = Checks.on("hump 8 0 0; pack 1;", "");
        for (int n = 50; n <= 60; n++) {
            for (int pack = 0; pack <= 2; pack++) {
                dueSpill(keep, n, 8, pack, SlideEdges.slidRow(new int[] {0, 0, 0, 0, n, 0, 0, 0, 0}, 1 + pack, 5000));
            }
        }
        int[] row = SlideEdges.slidRow(new int[] {0, 0, 0, 0, 60, 0, 0, 0, 0}, 1, 50);
        Checks.due("fifty rounds are not enough", row[4] - row[5] > 1 || row[4] - row[3] > 1 ? 1 : 0, 1);
        for (int i = 0; i < 8; i++) {
            int step = Math.abs(keep.spill(60, 8, 0, i) - keep.spill(60, 8, 0, i + 1));
            Checks.due("no step beside " + i + " is more than HOLDS", step <= 1 ? 1 : 0, 1);
        }
    }

    private static void beyondEnds() {
        TideKeep keep = Checks.on("hump 8 0 0; pack 1;", "");
        for (int n = 0; n <= 60; n += n < 4 ? 1 : 2) {
            int sum = 0;
            for (int i = 0; i < 9; i++) {
                sum += keep.spill(n, 8, 0, i);
            }
            Checks.due("all " + n + " are there", sum, n);
        }
        Checks.due("some lie at both ends", keep.spill(60, 8, 0, 0) > 0 && keep.spill(60, 8, 0, 8) > 0 ? 1 : 0, 1);
    }

    private static void wrongSpill() {
        TideKeep keep = new TideKeep();
        Edges.bounds("n", n -> keep.spill(n, 4, 0, 4), 0, 60);
        Edges.bounds("WET", wet -> keep.spill(5, wet, 0, 4), 0, 16);
        Edges.bounds("PACK", pack -> keep.spill(5, 4, pack, 4), 0, 4);
        Edges.bounds("i", i -> keep.spill(5, 4, 0, i), 0, 8);
    }

    private static void sixteen() {
        TideKeep keep = new TideKeep();
        for (int k = 0; k < 16; k++) {
            Checks.due("trial " + k, keep.trial(k, 15, 30, 0), k);
        }
        Checks.due("the seventeenth", keep.trial(16, 15, 30, 0), TideKeep.FULL);
        Checks.due("TRIED", keep.count(2), 16);
        Checks.due("the last of them counts", keep.right(16, 15, 1), 1);
        Checks.due("none fits it", keep.humps(16, 0), 0);
        Edges.refused("there is no seventeenth", keep.right(16, 16, 1));
    }

    private static void triedBounds() {
        TideKeep keep = new TideKeep();
        Edges.bounds("WET", wet -> keep.trial(0, wet, 1, 1), 1, 15);
        Edges.bounds("steepness", steep -> keep.trial(0, 8, steep, 0), 1, 30);
        Edges.bounds("stood", stood -> keep.trial(0, 8, 22, stood), 0, 1);
        Checks.due("six were taken", keep.count(2), 6);
    }

    private static int fitting(int wet, int steep, int stood) {
        TideKeep keep = new TideKeep();
        keep.trial(0, wet, steep, stood);
        return keep.humps(0, 0);
    }

    private static void stands() {
        for (int wet = 1; wet <= 15; wet++) {
            Checks.due("as steep as 1 all stand", fitting(wet, 1, 1), 1575);
            Checks.due("none does not", fitting(wet, 1, 0), 0);
            Checks.due("as steep as 21 the best of 20 stand", fitting(wet, 21, 1), 5);
            Checks.due("the others do not", fitting(wet, 21, 0), 1570);
            Checks.due("as steep as 22 none stands", fitting(wet, 22, 1), 0);
            Checks.due("as steep as 30 none stands", fitting(wet, 30, 0), 1575);
            int stands = 0;
            for (int hump = 0; hump < 1575; hump++) {
                stands += stands(hump, wet, 8) ? 1 : 0;
            }
            Checks.due("as steep as 8", fitting(wet, 8, 1), stands);
            Checks.due("not as steep as 8", fitting(wet, 8, 0), 1575 - stands);
        }
    }

    private static void steps() {
        TideKeep keep = new TideKeep();
        Edges.refused("a STEP of -1", keep.trial(-1, 5, 5, 1));
        Edges.refused("a STEP of 1000", keep.trial(1000, 5, 5, 1));
        Checks.due("STEP 0", keep.trial(0, 5, 5, 1), 0);
        Checks.due("STEP 0 again", keep.trial(0, 5, 5, 1), 1);
        Checks.due("STEP 7", keep.trial(7, 5, 5, 1), 2);
        Edges.refused("a STEP that falls", keep.trial(6, 5, 5, 1));
        Edges.refused("a STEP of RIGHT that falls", keep.right(6, 0, 1));
        Checks.due("RIGHT at the same STEP", keep.right(7, 0, 1), 1);
        Checks.due("RIGHT later", keep.right(9, 0, 1), 2);
        Edges.refused("TRIED ahead of RIGHT", keep.trial(8, 5, 5, 1));
        Checks.due("TRIED at RIGHT's STEP", keep.trial(9, 5, 5, 1), 3);
        Edges.refused("refused with a later STEP", keep.trial(500, 16, 5, 1));
        Edges.refused("refused with a later STEP", keep.right(500, 9, 1));
        Checks.due("that STEP was not told", keep.trial(10, 5, 5, 1), 4);
        Checks.due("STEP 999", keep.trial(999, 5, 5, 1), 5);
        Checks.due("RIGHT at 999", keep.right(999, 5, 1), 1);
        Edges.refused("RIGHT at 1000", keep.right(1000, 5, 1));
        Edges.refused("RIGHT at -1", keep.right(-1, 5, 1));
        Edges.refused("RIGHT at 998", keep.right(998, 5, 1));
        Checks.due("STEP 999 again", keep.trial(999, 5, 5, 1), 6);
    }

    private static void putRight() {
        TideKeep keep = new TideKeep();
        keep.trial(0, 5, 21, 1);
        keep.trial(0, 6, 21, 0);
        Checks.due("as told", keep.humps(0, 0), 5);
        keep.right(1, 0, 1);
        Checks.due("put RIGHT as it was", keep.humps(1, 0), 5);
        keep.right(2, 0, 0);
        Checks.due("it did not stand", keep.humps(2, 0), 1565);
        keep.right(3, 1, 1);
        Checks.due("the other one stood", keep.humps(3, 0), 5);
        Checks.due("by best 6", keep.humps(3, 1) * 100 + keep.humps(3, 2), 606);
        keep.right(3, 1, 0);
        keep.right(3, 1, 1);
        keep.right(3, 1, 0);
        Checks.due("the last of one STEP counts", keep.humps(3, 0), 1565);
        keep.right(3, 0, 1);
        Checks.due("RIGHT again", keep.humps(3, 1) * 100 + keep.humps(3, 2), 505);
    }

    private static void wrongTrial() {
        TideKeep keep = new TideKeep();
        Edges.refused("WET 0", keep.trial(9, 0, 5, 1));
        Checks.due("the first number", keep.trial(0, 5, 5, 1), 0);
        Edges.changesNothing("trial() that is refused", other -> {
            Edges.refused("STEP", other.trial(5, 5, 5, 1));
            Edges.refused("WET", other.trial(9, 16, 5, 1));
            Edges.refused("steepness", other.trial(9, 5, 31, 1));
            Edges.refused("stood", other.trial(9, 5, 5, 2));
        });
        for (int k = 1; k < 16; k++) {
            keep.trial(0, 5, 5, 1);
        }
        Edges.refused("RANGE goes ahead of FULL", keep.trial(0, 5, 5, 2));
        Checks.due("FULL", keep.trial(700, 5, 5, 1), TideKeep.FULL);
        Checks.due("its STEP was not told", keep.right(1, 0, 1), 1);
    }

    private static void howOften() {
        TideKeep keep = new TideKeep();
        keep.trial(0, 5, 5, 1);
        keep.trial(0, 6, 5, 1);
        Checks.due("once", keep.right(0, 0, 0), 1);
        Checks.due("twice", keep.right(0, 0, 1), 2);
        Checks.due("the other one once", keep.right(3, 1, 1), 1);
        Checks.due("three times", keep.right(3, 0, 1), 3);
        Checks.due("in all", keep.count(3), 4);
    }

    private static void wrongRight() {
        TideKeep keep = new TideKeep();
        Edges.refused("none is TRIED", keep.right(0, 0, 1));
        keep.trial(2, 5, 5, 1);
        keep.trial(2, 5, 5, 1);
        Edges.bounds("k", k -> keep.right(2, k, 1), 0, 1);
        Edges.bounds("stood", stood -> keep.right(2, 0, stood), 0, 1);
        Edges.refused("a STEP that falls", keep.right(1, 0, 1));
        Checks.due("puttings RIGHT", keep.count(3), 4);
        for (int i = 4; i < 20; i++) {
            Checks.due("putting " + (i + 1), keep.right(2, 1, 1), i - 2);
        }
        Checks.due("the 21st", keep.right(2, 0, 1), TideKeep.FULL);
        Checks.due("of the other", keep.right(800, 1, 1), TideKeep.FULL);
        Edges.refused("RANGE goes ahead of FULL", keep.right(2, 2, 1));
        Checks.due("puttings RIGHT", keep.count(3), 20);
        Checks.due("the STEP of what was FULL was not told", keep.trial(3, 5, 5, 1), 2);
        Edges.changesNothing("right() that is refused", other -> {
            Edges.refused("STEP", other.right(5, 0, 1));
            Edges.refused("k", other.right(9, 2, 1));
            Edges.refused("stood", other.right(9, 0, -1));
        });
    }

    private static void allHumps() {
        TideKeep keep = Checks.on("hump 3 4 9;", "");
        int[] want = {1575, 1, 15, 0, 20};
        for (int what = 0; what < 5; what++) {
            Checks.due("humps(0, " + what + ")", keep.humps(0, what), want[what]);
        }
        // Best 8 and top 20 alone: what one loss of 1 .. 5 leaves at WET 7 parts them.
        keep.trial(0, 8, 21, 1);
        Checks.due("one of each loss", keep.humps(0, 0), 5);
        int[] steep = {20, 19, 18, 17, 16};
        for (int loss = 1; loss <= 5; loss++) {
            TideKeep one = new TideKeep();
            one.trial(0, 8, 21, 1);
            one.trial(0, 7, steep[loss - 1], 1);
            one.trial(0, 7, steep[loss - 1] + 1, 0);
            Checks.due("loss " + loss, one.humps(0, 0), 1);
        }
        TideKeep none = new TideKeep();
        none.trial(0, 8, 21, 1);
        none.trial(0, 7, 16, 0);
        Checks.due("no loss of 6", none.humps(0, 0), 0);
        TideKeep still = new TideKeep();
        still.trial(0, 8, 21, 1);
        still.trial(0, 7, 21, 1);
        Checks.due("no loss of 0", still.humps(0, 0), 0);
    }

    private static void asKnown() {
        TideKeep keep = new TideKeep();
        keep.trial(10, 5, 21, 1);
        keep.right(20, 0, 0);
        keep.trial(30, 6, 21, 1);
        keep.right(30, 0, 1);
        keep.right(40, 1, 0);
        int[] steps = {0, 9, 10, 11, 19, 20, 21, 29, 30, 39, 40, 999};
        int[] fit = {1575, 1575, 5, 5, 5, 1570, 1570, 1570, 0, 0, 5, 5};
        for (int i = 0; i < steps.length; i++) {
            Checks.due("humps as known at " + steps[i], keep.humps(steps[i], 0), fit[i]);
        }
    }

    private static void leastAndGreatest() {
        TideKeep keep = new TideKeep();
        keep.trial(1, 5, 10, 1);
        keep.trial(2, 5, 21, 0);
        keep.trial(3, 1, 2, 0);
        keep.trial(4, 9, 2, 0);
        keep.trial(5, 5, 30, 1);
        int[] want = new int[] {0, 99, -1, 99, -1};
        for (int hump = 0; hump < 1575; hump++) {
            int best = 1 + hump / 105;
            int top = hump / 5 % 21;
            if (stands(hump, 5, 10) && !stands(hump, 5, 21) && !stands(hump, 1, 2) && !stands(hump, 9, 2)) {
                want = new int[] {want[0] + 1, Math.min(want[1], best), Math.max(want[2], best), Math.min(want[3], top),
                    Math.max(want[4], top)};
            }
        }
        for (int what = 0; what < 5; what++) {
            Checks.due("humps(4, " + what + ")", keep.humps(4, what), want[what]);
            Checks.due("none fits: humps(5, " + what + ")", keep.humps(5, what), what == 0 ? 0 : TideKeep.NONE);
        }
        TideKeep edges = new TideKeep();
        edges.trial(0, 15, 21, 1);
        Checks.due("best 15 alone", edges.humps(0, 1) * 100 + edges.humps(0, 2), 1515);
        Checks.due("top 20 alone", edges.humps(0, 3) * 100 + edges.humps(0, 4), 2020);
        TideKeep low = new TideKeep();
        low.trial(0, 1, 21, 1);
        Checks.due("best 1 alone", low.humps(0, 1) * 100 + low.humps(0, 2), 101);
    }

    private static void wrongHumps() {
        TideKeep keep = new TideKeep();
        Edges.bounds("known", known -> keep.humps(known, 0), 0, 999);
        Edges.bounds("what", what -> keep.humps(5, what), 0, 4);
    }

    private static void next() {
        // Of best 5, top 20 at WET 1 losses 1 .. 5 leave 16, 12, 8, 4, 0: from 6 to 9 three of five stand.
        TideKeep keep = new TideKeep();
        keep.trial(0, 5, 21, 1);
        Checks.due("parted as evenly as can be", keep.next(), 106);
        keep.trial(0, 1, 6, 1);
        Checks.due("three are left, of losses 1 .. 3", keep.humps(0, 0), 3);
        Checks.due("two of one answer", keep.next(), 110);
        keep.trial(900, 1, 10, 0);
        Checks.due("of what is known at all STEPS one is left", keep.next(), TideKeep.NONE);
        keep.right(901, 2, 1);
        Checks.due("put RIGHT, two are left", keep.humps(901, 0), 2);
        Checks.due("one of each answer", keep.next(), 114);
        dueNext(new int[0][]);
        dueNext(new int[][] {{8, 5, 0}});
        dueNext(new int[][] {{8, 5, 1}, {3, 2, 1}, {12, 9, 0}});
        dueNext(new int[][] {{1, 4, 0}, {15, 4, 0}, {7, 11, 1}});
    }

    /** NEXT beside all questions asked of all humps. */
    private static void dueNext(int[][] tried) {
        TideKeep keep = new TideKeep();
        for (int[] one : tried) {
            keep.trial(0, one[0], one[1], one[2]);
        }
        int want = TideKeep.NONE;
        int least = keep.humps(0, 0);
        for (int question = 101; question <= 1530; question++) {
            if (question % 100 >= 1 && question % 100 <= 30) {
                int greater = Math.max(howMany(tried, question, 0), howMany(tried, question, 1));
                want = greater < least ? question : want;
                least = Math.min(least, greater);
            }
        }
        Checks.due("next() behind " + tried.length, keep.next(), want);
    }

    /** How many humps fit all that was tried, and one question's answer. */
    private static int howMany(int[][] tried, int question, int stood) {
        int fitting = 0;
        for (int hump = 0; hump < 1575; hump++) {
            boolean fits = stands(hump, question / 100, question % 100) == (stood == 1);
            for (int[] one : tried) {
                fits &= stands(hump, one[0], one[1]) == (one[2] == 1);
            }
            fitting += fits ? 1 : 0;
        }
        return fitting;
    }

    private static boolean stands(int hump, int wet, int steep) {
        int off = (1 + hump % 5) * Math.abs(wet - (1 + hump / 105));
        return steep <= 1 + Math.max(0, hump / 5 % 21 - off);
    }

    private static void leastQuestion() {
        TideKeep keep = new TideKeep();
        keep.trial(0, 5, 21, 1);
        // WET 1 and 9, steepness 6 .. 9 part alike.
        Checks.due("the least WET, then steepness", keep.next(), 106);
        TideKeep two = new TideKeep();
        two.trial(0, 1, 21, 1);
        two.trial(0, 2, 19, 1);
        two.trial(0, 2, 21, 0);
        Checks.due("losses 1 and 2 are left", two.humps(0, 0), 2);
        // At WET 1 both stand alike; at WET 2 they leave 19 and 18: as steep as 20 one stands.
        Checks.due("the least WET that parts them", two.next(), 220);
    }

    private static void noQuestion() {
        TideKeep keep = new TideKeep();
        for (int wet = 1; wet <= 15; wet++) {
            keep.trial(0, wet, 2, 0);
        }
        Checks.due("75 are left, all of them of top 0", keep.humps(0, 0) * 100 + keep.humps(0, 4), 7500);
        Checks.due("none parts them", keep.next(), TideKeep.NONE);
        keep.trial(0, 8, 30, 1);
        Checks.due("none is left", keep.humps(0, 0), 0);
        Checks.due("none parts none", keep.next(), TideKeep.NONE);
        TideKeep one = new TideKeep();
        one.trial(0, 8, 21, 1);
        one.trial(0, 7, 16, 1);
        one.trial(0, 7, 17, 0);
        Checks.due("one is left", one.humps(0, 0), 1);
        Checks.due("none parts one", one.next(), TideKeep.NONE);
    }

    private static void nextOrNone() {
        TideKeep keep = new TideKeep();
        int first = keep.next();
        Checks.due("a WET", first / 100 >= 1 && first / 100 <= 15 ? 1 : 0, 1);
        Checks.due("a steepness", first % 100 >= 1 && first % 100 <= 30 ? 1 : 0, 1);
        keep.trial(0, 15, 21, 1);
        Checks.due("by WET and steepness", keep.next(), bestOfFifteen());
        keep.trial(0, 15, 21, 0);
        Checks.due("NONE", keep.next(), TideKeep.NONE);
    }

    /** What parts best the five humps of best 15 and top 20. */
    private static int bestOfFifteen() {
        int least = 5;
        int best = TideKeep.NONE;
        for (int question = 100; question < 1600; question++) {
            int stand = 0;
            for (int loss = 1; loss <= 5; loss++) {
                stand += question % 100 <= 1 + Math.max(0, 20 - loss * (15 - question / 100)) ? 1 : 0;
            }
            boolean isOne = question % 100 >= 1 && question % 100 <= 30;
            if (isOne && Math.max(stand, 5 - stand) < least) {
                least = Math.max(stand, 5 - stand);
                best = question;
            }
        }
        return best;
    }
}
