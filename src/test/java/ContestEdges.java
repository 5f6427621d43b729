import java.util.Arrays;

/** Edges of where to stand, who outlasts, contests, which wave it was, and two that join. */
final class ContestEdges {
    private static final String FIRM = "hump 8 20 0; damp 8; dry 60; pack 0;";
    // By a wave a unit is cut off the first cell; the second, at y 1, dries in minute 1, and slides.
    private static final String WAVE_OR_SUN = "beach 1 2; sand 1; damp 1; dry 2; hump 1 20 0; pack 0; fall 0;";
    private static final int[] OF_A_HUNDRED = {20, 35, 50, 65};

    private ContestEdges() {
    }

    static void all() {
        stands();
        contests();
        waves();
        joins();
    }

    private static void stands() {
        Edges.edge("Terms III", "STAND: a tower of n units (1 .. 30) more (HEIGHT alone becomes more, then its FLAG is put up)",
            ContestEdges::heightAlone);
        Edges.edge("Terms III", "at a CELL without a STONE", ContestEdges::withoutStone);
        Edges.edge("Terms III", "the CELL with the greatest sum of LAST over seeds 1 .. k in TRIALS without a PLAN; then the least",
            ContestEdges::standBySeeds);
        Edges.edge("Terms III", "and a FLAG of its own", ContestEdges::flagOfItsOwn);
        Edges.edge("Promise 30", "STAND of a tower of n units by seeds 1 .. k (1 .. 9): the CELL",
            ContestEdges::standAnywhere);
        Edges.edge("Promise 30", "NONE: there is a STONE at all", ContestEdges::stonesEverywhere);
        Edges.edge("Promise 30", "NONE: there is a STONE at all; RANGE", ContestEdges::wrongStand);
    }

    private static void contests() {
        Edges.edge("Terms III", "in how many of TRIALS by seeds 1 .. k LAST of a FLAG is more than that of another one:"
            + " a fraction by least numbers", ContestEdges::outlasts);
        Edges.edge("Promise 31", "a FLAG beside another one, by seeds 1 .. k (1 .. 9), without a PLAN, the upper number"
            + " (or the lower one)", ContestEdges::upperOrLower);
        Edges.edge("Promise 31", "RANGE: also alike ones", ContestEdges::wrongOutlasts);
        Edges.edge("Terms III", "of all PLANS that which has the greatest sum over seeds 1 .. k of LAST of FLAG 0 (rule 0)",
            ContestEdges::contestByLast);
        Edges.edge("Terms III", "or of HEIGHT of its CELL at the end (1); then the least",
            ContestEdges::contestByHeight);
        Edges.edge("Promise 32", "CONTEST by a rule (0, 1), seeds 1 .. k (1 .. 9): the PLAN; RANGE",
            ContestEdges::wrongContest);
        Edges.edge("Promise 32", "RANGE; STATE: there are no FLAGS; NONE: there are no PLANS (in this order)",
            ContestEdges::noContest);
    }

    private static void waves() {
        Edges.edge("Terms III", "a told WAVE by its number alone (and SLIDES behind it) on how things are now",
            ContestEdges::waveAlone);
        Edges.edge("Promise 33", "THE TAPE is HEIGHTS, a byte for each CELL (32 and HEIGHT, 126 at most)",
            ContestEdges::bytesOfHeights);
        Edges.edge("Terms III", "whether HEIGHTS are as told then", ContestEdges::heightsAlone);
        Edges.edge("Promise 33", "WHICH WAVES could have done it, as bits by their numbers", ContestEdges::bits);
        Edges.edge("Promise 33", "NONE: it is no such row", ContestEdges::noRow);
        Edges.edge("Promise 33", "(HEIGHTS above 94 are never as told.)", ContestEdges::aboveNinetyFour);
    }

    private static void joins() {
        Edges.edge("Terms III", "to each side h less a, less 2 a, .., as long as that is above 0",
            ContestEdges::towers);
        Edges.edge("Terms III", "what is left times 100, over (r and s) times c, rounded up", ContestEdges::roundedUp);
        Edges.edge("Terms III", "(at j, if nothing is left)", ContestEdges::nothingLeft);
        Edges.edge("Terms III", "the j (0 .. 99) with the least of these; then the least j", ContestEdges::leastMinute);
        Edges.edge("Promise 34", "JOIN: h 1 .. 99, a 1 .. 99, r, s 1 .. 50, c 1 .. 100, what 0: j, 1: when all is done; RANGE",
            ContestEdges::wrongJoin);
    }

    private static void heightAlone() {
        // The third cell is packed; sand brought there by hands would not be, and as dry as this it would slide.
        TideKeep keep = Checks.on("beach 3 1; sand 1; damp 0; dry 60; pack 5;", "");
        Checks.plan(keep, "hand pack 2 0;");
        keep.work(0);
        keep.pass(4);
        Checks.due("PACK stays", keep.stand(10, 1, 5), 2);
        Checks.due("up to what it holds", keep.stand(21, 1, 5), 2);
        Checks.due("beyond that all are alike", keep.stand(30, 1, 5), 0);
        Checks.due("a unit that holds anywhere", keep.stand(1, 1, 5), 0);
        TideKeep wet = Checks.on("beach 3 1; sand 1; damp 0; dry 60; pack 0; hump 8 20 0;", "");
        Checks.plan(wet, "hand wet 1 0;");
        wet.work(0);
        wet.pass(1);
        Checks.due("WET stays", wet.stand(21, 1, 5), 1);
        // Of 1 and 3 by HOLDS 1 one unit goes: 2 is one less than the flag's HEIGHT, 3, and more than the sand was.
        TideKeep low = Checks.on("beach 3 1; sand 1; damp 0; dry 60; stone 1 0; fall 0;", "");
        Checks.due("the FLAG is put up on the tower", low.stand(2, 1, 5), 0);
        TideKeep fall = Checks.on("beach 4 1; sand 1; damp 0; dry 60; pack 0; fall 1; stone 2 0;", "");
        // At x 0 a tower of 4 loses two units to x 1; at x 3 nothing goes anywhere.
        Checks.due("by fall", fall.stand(4, 1, 5), 3);
        Checks.due("as much as fall lets it lose", fall.stand(2, 1, 5), 0);
    }

    private static void withoutStone() {
        // A tower on a stone would never slide.
        TideKeep keep = Checks.on("beach 3 1; sand 1; stone 1 0; damp 0; dry 60; fall 0;", "");
        Checks.due("alone at its side, behind a stone", keep.stand(9, 1, 5), 0);
        TideKeep rows = Checks.on("beach 2 2; sand 1; stone 0 0; damp 0; dry 60; fall 0;", "");
        Checks.due("all others slide", rows.stand(9, 1, 5), 1);
        TideKeep last = Checks.on("beach 2 2; sand 1; stone 0 0; stone 1 0; stone 0 1;", "");
        Checks.due("the last cell is the only one", last.stand(9, 1, 5), 3);
        TideKeep wall = Checks.on("beach 2 1; sand 1;", "");
        Checks.plan(wall, "hand wall 0 0;");
        wall.work(0);
        wall.pass(1);
        Checks.due("a wall is a stone, too", wall.stand(9, 1, 5), 1);
    }

    private static int cameBySeeds(int k, int percent) {
        int came = 0;
        for (int seed = 1; seed <= k; seed++) {
            came += Checks.step(seed) / 65536 % 100 < percent ? 1 : 0;
        }
        return came;
    }

    private static String drawn(int percent, int level) {
        return "tide 0 0 1 " + percent + "; reach 1 1; level " + level + " " + level + "; cut 3;";
    }

    private static void standBySeeds() {
        TideKeep keep = Checks.on(WAVE_OR_SUN, "");
        for (int percent : OF_A_HUNDRED) {
            Checks.sea(keep, drawn(percent, 0));
            for (int k = 1; k <= 9; k++) {
                // In two minutes: at y 0 it lasts both where no wave came, else none; at y 1 one by each seed.
                int stay = k - cameBySeeds(k, percent);
                Checks.due("two minutes, seeds 1 .. " + k, keep.stand(5, k, 2), 2 * stay >= k ? 0 : 1);
                Checks.due("one minute, seeds 1 .. " + k, keep.stand(5, k, 1), stay >= k ? 0 : 1);
            }
        }
        Checks.sea(keep, drawn(50, 0));
        Checks.plan(keep, "hand wall 0 0;");
        keep.work(0);
        Checks.due("without the PLAN that holds", keep.stand(5, 1, 2), 1);
        TideKeep alike = Checks.on("beach 3 3; sand 1;" + FIRM, "");
        Checks.due("the least of alike ones", alike.stand(20, 9, 99), 0);
        TideKeep soaked = Checks.on("beach 2 3; sand 1; fall 0;" + FIRM, "wave 2 2 0; cut 1;");
        Checks.due("out of the wave's reach", soaked.stand(3, 1, 9), 2);
        Checks.due("as long as the wave has not come", soaked.stand(3, 1, 2), 0);
    }

    private static void flagOfItsOwn() {
        // All three flags that are told fell already; the tower's own has not.
        TideKeep keep = Checks.on("beach 3 2; sand 3; flag 0 0; flag 1 0; flag 2 0; fall 0;" + FIRM,
            "wave 0 1 2; cut 3;");
        keep.pass(1);
        Checks.due("they fell", keep.flag(0, 0) + keep.flag(1, 0) + keep.flag(2, 0), 0);
        Checks.due("at the first cell, with a flag that fell", keep.stand(1, 1, 9), 0);
        Checks.due("they stay as they are", keep.told(11) * 10 + keep.flag(0, 3), 30);
        TideKeep none = Checks.on("beach 2 2; sand 3;" + FIRM, "wave 1 1 2; cut 1;");
        Checks.due("where no flag is told", none.stand(5, 1, 9), 2);
        Edges.refused("none is told then", none.flag(0, 0));
    }

    private static void standAnywhere() {
        TideKeep one = Checks.on("beach 1 1; sand 40;", "");
        Checks.due("the only cell", one.stand(30, 9, 99), 0);
        Checks.due("flags that are told do not matter", Checks.on("flag 0 0; flag 1 1; flag 2 2;", "").stand(1, 1, 1), 0);
        // Stones all around the last cell: no other tower of thirty holds.
        TideKeep last = Checks.on("beach 8 8; sand 1; stone 6 7; stone 7 6;", "");
        Checks.due("the last cell", last.stand(30, 1, 2), 63);
    }

    private static void stonesEverywhere() {
        TideKeep keep = Checks.on("beach 2 1; stone 0 0; stone 1 0;", "");
        Checks.due("stones at all cells", keep.stand(5, 1, 5), TideKeep.NONE);
        TideKeep one = Checks.on("beach 1 1; stone 0 0;", "");
        Checks.due("a stone at the only cell", one.stand(1, 9, 99), TideKeep.NONE);
        TideKeep most = Checks.on("beach 2 2; stone 0 0; stone 1 0; stone 1 1;", "");
        Checks.due("at all but one", most.stand(5, 1, 5), 2);
        Edges.refused("RANGE all the same", keep.stand(31, 1, 5));
    }

    private static void wrongStand() {
        TideKeep keep = Checks.on("beach 2 2;", "");
        Edges.bounds("n", n -> keep.stand(n, 1, 3), 1, 30);
        Edges.bounds("k", k -> keep.stand(1, k, 3), 1, 9);
        Edges.bounds("minutes", minutes -> keep.stand(1, 1, minutes), 1, 99);
    }

    // A stone stands between, so that nothing slides from the higher one.
    private static final String TWO_FLAGS = "beach 3 1; sand 3; heap 3 2 0; stone 1 0; flag 0 0; flag 2 0; fall 0;" + FIRM;

    private static void dueFraction(TideKeep keep, int k, int upper, int lower) {
        Checks.due("upper of " + k, keep.outlasts(0, 1, k, 1, false), upper);
        Checks.due("lower of " + k, keep.outlasts(0, 1, k, 1, true), lower);
    }

    private static void outlasts() {
        // Below 50 draw the seeds 1, 2, 3, 4, not 5, 6, not 7, 8, not 9: the higher flag falls by their wave.
        TideKeep keep = Checks.on(TWO_FLAGS, "tide 0 0 1 50; reach 1 1; level 4 4;");
        int[] upper = {1, 1, 1, 1, 4, 5, 5, 3, 2};
        int[] lower = {1, 1, 1, 1, 5, 6, 7, 4, 3};
        for (int k = 1; k <= 9; k++) {
            dueFraction(keep, k, upper[k - 1], lower[k - 1]);
            Checks.due("never the other way", keep.outlasts(1, 0, k, 1, false), 0);
            Checks.due("of one", keep.outlasts(1, 0, k, 1, true), 1);
        }
        TideKeep alike = Checks.on(TWO_FLAGS, "wave 0 1 0;");
        dueFraction(alike, 9, 0, 1);
        TideKeep none = Checks.on(TWO_FLAGS, "");
        dueFraction(none, 8, 0, 1);
        TideKeep all = Checks.on(TWO_FLAGS, "wave 0 1 4;");
        dueFraction(all, 8, 1, 1);
        TideKeep byOne = Checks.on(TWO_FLAGS, "wave 0 1 4; wave 1 1 0;");
        Checks.due("a minute more is more", byOne.outlasts(0, 1, 1, 5, false), 1);
        TideKeep few = Checks.on(TWO_FLAGS, "tide 0 0 1 15; reach 1 1; level 4 4;");
        // Below 15 draws seed 2 alone (8).
        dueFraction(few, 2, 1, 2);
        dueFraction(few, 9, 1, 9);
    }

    private static void upperOrLower() {
        TideKeep keep = Checks.on(TWO_FLAGS, "wave 2 1 4;");
        Checks.plan(keep, "hand wall 2 0;");
        keep.work(0);
        Checks.due("without the PLAN that holds", keep.outlasts(0, 1, 9, 5, false), 1);
        Checks.due("the lower number", keep.outlasts(0, 1, 9, 5, true), 1);
        Checks.due("ahead of the wave", keep.outlasts(0, 1, 9, 2, false), 0);
        keep.work(TideKeep.NONE);
        keep.pass(3);
        Checks.due("one fell already", keep.outlasts(0, 1, 9, 5, false), 1);
        Checks.due("one fell already", keep.outlasts(1, 0, 9, 5, false), 0);
        TideKeep three = Checks.on("beach 5 1; sand 3; heap 3 2 0; heap 1 4 0; stone 1 0; stone 3 0; flag 0 0; flag 2 0;"
            + " flag 4 0; fall 0;" + FIRM, "wave 0 1 4; wave 1 1 3;");
        Checks.due("of three flags", three.outlasts(2, 1, 1, 5, false) * 100 + three.outlasts(0, 2, 1, 5, false) * 10
            + three.outlasts(1, 2, 1, 5, false), 110);
    }

    private static void wrongOutlasts() {
        TideKeep keep = Checks.on("flag 0 0; flag 1 0; flag 2 0;", "");
        for (boolean isLower : new boolean[] {false, true}) {
            for (int flag = 0; flag < 3; flag++) {
                Edges.refused("flag " + flag + " beside itself", keep.outlasts(flag, flag, 1, 5, isLower));
            }
            Edges.bounds("a", a -> keep.outlasts(a, 1, 1, 5, isLower), 0, 0);
            Edges.bounds("b", b -> keep.outlasts(0, b, 1, 5, isLower), 1, 2);
            Edges.refused("a flag too many", keep.outlasts(3, 1, 1, 5, isLower));
            Edges.refused("a flag too few", keep.outlasts(1, -1, 1, 5, isLower));
            Edges.bounds("k", k -> keep.outlasts(0, 1, k, 5, isLower), 1, 9);
            Edges.bounds("minutes", minutes -> keep.outlasts(0, 1, 1, minutes, isLower), 1, 99);
        }
        Edges.refused("of one flag", Checks.on("flag 0 0;", "").outlasts(0, 1, 1, 5, false));
        Edges.refused("of none", new TideKeep().outlasts(0, 1, 1, 5, false));
    }

    private static void contestByLast() {
        TideKeep keep = Checks.on("beach 1 2; sand 3; heap 9 0 1; fall 0; flag 0 0; flag 0 1;" + FIRM, "");
        Checks.plan(keep, "hand rest;");
        Checks.plan(keep, "hand dig 0 1 0 0 dig 0 0 0 1;hand dig 0 1 0 0 dig 0 0 0 1;hand dig 0 1 0 0 dig 0 0 0 1;"
            + "hand rest dig 0 0 0 1;");
        for (int percent : OF_A_HUNDRED) {
            Checks.sea(keep, drawn(percent, 0));
            for (int k = 1; k <= 9; k++) {
                // In two minutes: by rests it lasts both where no wave came, else none; by the digs one whatever comes.
                int stay = k - cameBySeeds(k, percent);
                Checks.due("two minutes, seeds 1 .. " + k, keep.contest(0, k, 2), 2 * stay >= k ? 0 : 1);
                Checks.due("one minute, seeds 1 .. " + k, keep.contest(0, k, 1), stay >= k ? 0 : 1);
            }
        }
        Checks.plan(keep, "hand wall 0 0;");
        Checks.due("a wall is best", keep.contest(0, 9, 99), 2);
        keep.work(2);
        Checks.due("the PLAN that holds does not matter", keep.contest(0, 1, 2), 2);
        TideKeep alike = Checks.on("beach 1 1; flag 0 0;", "");
        for (int plan = 0; plan < 3; plan++) {
            Checks.plan(alike, "hand rest;");
        }
        Checks.due("the least of alike ones", alike.contest(0, 9, 99), 0);
        alike.pass(1);
        TideKeep fallen = Checks.on("beach 1 1; sand 3; flag 0 0; fall 0;", "wave 0 1 0;");
        Checks.plan(fallen, "hand wet 0 0;");
        Checks.plan(fallen, "hand wall 0 0;");
        fallen.pass(1);
        Checks.due("where it fell already all are alike", fallen.contest(0, 3, 9), 0);
    }

    private static void contestByHeight() {
        TideKeep keep = Checks.on("beach 3 1; sand 3; stone 1 0; fall 0; flag 0 0; flag 2 0;" + FIRM, "");
        Checks.plan(keep, "hand rest;");
        Checks.plan(keep, "hand dig 0 0 2 0 rest rest rest rest rest rest rest;");
        for (int percent : OF_A_HUNDRED) {
            Checks.sea(keep, drawn(percent, 2));
            for (int k = 1; k <= 9; k++) {
                // Behind a minute: 3 by rests where no wave came, else 0; by the dig 2, as that is not above LEVEL.
                int want = 3 * (k - cameBySeeds(k, percent)) >= 2 * k ? 0 : 1;
                Checks.due("behind a minute, seeds 1 .. " + k, keep.contest(1, k, 1), want);
            }
        }
        TideKeep end = Checks.on("beach 1 2; sand 5; fall 0; flag 0 0; flag 0 1;" + FIRM, "");
        Checks.plan(end, "hand dig 0 1 0 0 dig 0 0 0 1 dig 0 0 0 1 rest rest rest rest;");
        Checks.plan(end, "hand dig 0 0 0 1 dig 0 1 0 0 dig 0 1 0 0 rest rest rest rest;");
        Checks.due("behind one minute", end.contest(1, 1, 1), 0);
        Checks.due("behind two alike, the least", end.contest(1, 1, 2), 0);
        Checks.due("behind three, though its flag fell", end.contest(1, 1, 3), 1);
        Checks.due("while that of rule 0 stays", end.contest(0, 1, 3), 0);
        TideKeep fallen = Checks.on("beach 1 2; sand 3; flag 0 0; fall 0;" + FIRM, "wave 0 1 2;");
        Checks.plan(fallen, "hand rest;");
        Checks.plan(fallen, "hand dig 0 1 0 0;");
        fallen.pass(1);
        Checks.due("of a flag that fell, too", fallen.contest(1, 1, 1), 1);
    }

    private static void wrongContest() {
        TideKeep keep = Checks.on("flag 0 0;", "");
        Checks.plan(keep, "hand rest;");
        Edges.bounds("rule", rule -> keep.contest(rule, 1, 5), 0, 1);
        Edges.bounds("k", k -> keep.contest(0, k, 5), 1, 9);
        Edges.bounds("minutes", minutes -> keep.contest(0, 1, minutes), 1, 99);
        Edges.bounds("minutes of rule 1", minutes -> keep.contest(1, 1, minutes), 1, 99);
        Checks.due("the only plan", keep.contest(0, 1, 5) + keep.contest(1, 9, 99), 0);
    }

    private static void noContest() {
        TideKeep keep = new TideKeep();
        Edges.refused("a rule that is none", keep.contest(2, 1, 5));
        Edges.refused("no seeds", keep.contest(0, 0, 5));
        Edges.refused("no minutes", keep.contest(0, 1, 0));
        Checks.due("no FLAGS and no PLANS", keep.contest(0, 1, 5), TideKeep.STATE);
        Checks.due("no FLAGS and no PLANS", keep.contest(1, 1, 5), TideKeep.STATE);
        Checks.plan(keep, "hand rest;");
        Checks.due("no FLAGS", keep.contest(0, 1, 5), TideKeep.STATE);
        Checks.beach(keep, "flag 0 0;");
        Checks.due("no PLANS", keep.contest(0, 1, 5), TideKeep.NONE);
        Checks.due("no PLANS", keep.contest(1, 1, 5), TideKeep.NONE);
        Edges.refused("RANGE ahead of that", keep.contest(-1, 1, 5));
        Checks.plan(keep, "");
        Checks.due("a PLAN without HANDS is one", keep.contest(0, 1, 5), 0);
    }

    private static void waveAlone() {
        TideKeep keep = Checks.on("beach 2 1; sand 3;" + FIRM, "wave 50 1 2; wave 0 1 3; wave 51 1 2; cut 1;");
        Checks.due("as if each came alone, whenever it comes", Checks.which(keep, "\"\""), 0b101);
        Checks.due("cut by none", Checks.which(keep, "##"), 0b010);
        Checks.due("cut by two", Checks.which(keep, "!!"), 0);
        Checks.due("nothing came", keep.sum(6) + keep.sum(2) + keep.sum(1), 0);
        Checks.dueHeights(keep, " 3 3");
        keep.pass(51);
        Checks.due("on how things are now", Checks.which(keep, "!!"), 0);
        Checks.due("2 is not above 2", Checks.which(keep, "\"\""), 0b111);
        TideKeep slides = Checks.on("beach 2 1; sand 1; heap 2 0 0; hump 4 20 0; damp 4; dry 1; pack 0;",
            "wave 5 1 9; cut 0;");
        Checks.due("SLIDES behind it", Checks.which(slides, "\"\""), 1);
        Checks.due("not without", Checks.which(slides, "#!"), 0);
        TideKeep tide = Checks.on("beach 1 1; sand 3;" + FIRM, "wave 9 1 9; tide 0 9 1 100; level 0 0;");
        Checks.plan(tide, "hand wet 0 0;");
        tide.work(0);
        Checks.due("no tide, no hands, no sun", Checks.which(tide, "#"), 1);
        Checks.due("THE CHANCE and WET stay", tide.cell(0, 0, 1), 8);
    }

    private static void bytesOfHeights() {
        TideKeep keep = Checks.on("beach 3 2; sand 0; heap 1 1 0; heap 2 2 0; heap 3 0 1; heap 4 1 1; heap 5 2 1;" + FIRM,
            "wave 0 1 99;");
        Checks.due("cell by cell", Checks.which(keep, " !\"#$%"), 1);
        Checks.due("not the other way round", Checks.which(keep, "%$#\"! "), 0);
        Checks.due("one unit more", Checks.which(keep, " !\"#$&"), 0);
        Checks.due("one unit more", Checks.which(keep, "!!\"#$%"), 0);
        TideKeep high = Checks.on("beach 1 1; sand 40; heap 40 0 0; heap 14 0 0;", "wave 0 1 99;");
        Checks.due("94 as 126", Checks.which(high, "~"), 1);
        TideKeep low = Checks.on("beach 1 1; sand 0;", "wave 0 1 99;");
        Checks.due("0 as 32", Checks.which(low, " "), 1);
        TideKeep most = Checks.on("beach 8 8; sand 3;", "wave 0 1 99;");
        Checks.due("64 cells", Checks.which(most, "#".repeat(64)), 1);
        Checks.due("the 64th is looked at", Checks.which(most, "#".repeat(63) + "$"), 0);
    }

    /** Two waves that wet alike or otherwise, but leave the same heights, are both named. */
    private static void heightsAlone() {
        TideKeep keep = Checks.on("beach 1 4; sand 3;" + FIRM, "wave 0 1 3; wave 0 3 9; wave 0 4 2; cut 1;");
        Checks.due("whatever is wet", Checks.which(keep, "####"), 0b011);
        Checks.due("by heights", Checks.which(keep, "\"###"), 0b100);
        Checks.due("all heights", Checks.which(keep, "\"\"##") + Checks.which(keep, "###\""), 0);
    }

    private static void bits() {
        StringBuilder sea = new StringBuilder("cut 1;");
        for (int k = 0; k < 12; k++) {
            sea.append("wave 1 1 ").append(k == 11 ? 2 : 3).append(";");
        }
        TideKeep keep = Checks.on("beach 1 1; sand 3;" + FIRM, sea.toString());
        Checks.due("the last of twelve", Checks.which(keep, "\""), 1 << 11);
        Checks.due("the eleven others", Checks.which(keep, "#"), (1 << 11) - 1);
        Checks.due("none of them", Checks.which(keep, "$"), 0);
        Checks.sea(keep, "wave 1 1 9;".repeat(12));
        Checks.due("all of them", Checks.which(keep, "#"), 4095);
        Checks.sea(keep, "");
        Checks.due("of no waves", Checks.which(keep, "#"), 0);
    }

    private static void noRow() {
        TideKeep keep = Checks.on("beach 2 2; sand 3;" + FIRM, "wave 0 1 99;");
        for (String row : new String[] {"", "###", "#####", "\u001f###", "###\u001f", "\u007f###", "###\u007f", "##\n#",
            "\u0000###", "###\u00ff", "#\u0080##"}) {
            Checks.due("no row", Checks.which(keep, row), TideKeep.NONE);
            Checks.due("bytes behind it", keep.count(4), 0);
        }
        Checks.due("a row", Checks.which(keep, "####"), 1);
        Checks.due("a row that can't be", Checks.which(keep, "~~~ "), 0);
        Checks.sea(keep, "");
        Checks.due("no row, and no waves", Checks.which(keep, "###"), TideKeep.NONE);
    }

    private static void aboveNinetyFour() {
        TideKeep keep = Checks.on("beach 2 1; sand 40; heap 40 0 0; heap 15 0 0; heap 40 1 0; heap 14 1 0; hump 8 20 0; damp 8;",
            "wave 0 1 99; wave 0 1 94; cut 1;");
        Checks.dueHeights(keep, " 95 94");
        Checks.due("95 is not 94", Checks.which(keep, "~~"), 0b10);
        Checks.due("nor anything else", Checks.which(keep, " ~") + Checks.which(keep, "}~") + Checks.which(keep, "!~"), 0);
        Checks.due("127 is no byte for it", Checks.which(keep, "\u007f~"), TideKeep.NONE);
    }

    private static void dueJoin(int[] call, int minute, int done) {
        TideKeep keep = new TideKeep();
        String name = "join of " + Arrays.toString(call);
        Checks.due(name + ", j", keep.join(call[0], call[1], call[2], call[3], call[4], 0), minute);
        Checks.due(name + ", done", keep.join(call[0], call[1], call[2], call[3], call[4], 1), done);
    }

    private static void towers() {
        // Alone it takes a unit a minute, and joined at once just as long: done tells how many units it has.
        int[][] towers = {{1, 1, 1}, {2, 1, 4}, {3, 1, 9}, {4, 2, 8}, {5, 2, 13}, {6, 3, 12}, {7, 3, 17}, {9, 9, 9},
            {9, 10, 9},
            {10, 9, 12}, {50, 49, 52}, {99, 99, 99}, {99, 98, 101}, {10, 1, 100}, {99, 1, 9801}};
        for (int[] tower : towers) {
            dueJoin(new int[] {tower[0], tower[1], 1, 1, 100}, 0, tower[2]);
        }
    }

    private static void roundedUp() {
        dueJoin(new int[] {3, 3, 1, 2, 100}, 0, 2);
        dueJoin(new int[] {1, 1, 1, 2, 100}, 0, 1);
        dueJoin(new int[] {5, 2, 2, 3, 100}, 0, 6);
        dueJoin(new int[] {99, 99, 50, 50, 100}, 0, 2);
        dueJoin(new int[] {5, 2, 2, 3, 50}, 4, 7);
        dueJoin(new int[] {50, 50, 50, 50, 100}, 0, 1);
        dueJoin(new int[] {51, 51, 50, 50, 100}, 0, 2);
        // At j 1 there are 199 left: 19900 over 297 is a little more than 67.
        dueJoin(new int[] {99, 98, 1, 2, 99}, 2, 68);
    }

    private static void nothingLeft() {
        dueJoin(new int[] {1, 1, 1, 1, 1}, 1, 1);
        dueJoin(new int[] {5, 5, 5, 5, 1}, 1, 1);
        dueJoin(new int[] {6, 6, 5, 5, 1}, 2, 2);
        // From minute 1 on ever less is left of the slow one alone: all j up to 10 are done at 10.
        dueJoin(new int[] {10, 10, 10, 1, 10}, 1, 10);
        dueJoin(new int[] {99, 99, 1, 1, 1}, 99, 99);
    }

    private static void leastMinute() {
        dueJoin(new int[] {1, 1, 1, 1, 100}, 0, 1);
        dueJoin(new int[] {99, 99, 1, 1, 100}, 0, 99);
        dueJoin(new int[] {99, 1, 50, 50, 1}, 99, 9801);
        dueJoin(new int[] {99, 1, 1, 1, 1}, 99, 99 + 2 * (9801 - 99) * 50);
        dueJoin(new int[] {99, 1, 50, 50, 100}, 0, 197);
    }

    private static void wrongJoin() {
        TideKeep keep = new TideKeep();
        for (int what = 0; what < 2; what++) {
            int asked = what;
            Edges.bounds("h", h -> keep.join(h, 1, 1, 1, 1, asked), 1, 99);
            Edges.bounds("a", a -> keep.join(1, a, 1, 1, 1, asked), 1, 99);
            Edges.bounds("r", r -> keep.join(1, 1, r, 1, 1, asked), 1, 50);
            Edges.bounds("s", s -> keep.join(1, 1, 1, s, 1, asked), 1, 50);
            Edges.bounds("c", c -> keep.join(1, 1, 1, 1, c, asked), 1, 100);
        }
        Edges.bounds("what", what -> keep.join(1, 1, 1, 1, 1, what), 0, 1);
    }
}
