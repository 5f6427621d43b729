/** Edges of TRIALS, of LAST, of WORKS and ROWS of them, and of AGAIN. */
final class TrialEdges {
    private static final String FIRM = "hump 8 20 0; damp 8; dry 60; pack 0;";
    // A flag that falls when a wave cuts a unit off its cell.
    private static final String CUT = "beach 1 1; sand 5; fall 0; flag 0 0;" + FIRM;
    // The same with a higher cell behind it, from which nothing slides, and to which nothing slides back.
    private static final String BACKED = "beach 1 2; sand 3; heap 9 0 1; flag 0 0; fall 0;" + FIRM;

    private TrialEdges() {
    }

    static void all() {
        lasts();
        works();
        again();
    }

    private static void lasts() {
        Edges.edge("Terms III", "A TRIAL goes on from how things are now for so many MINUTES (1 .. 99)",
            TrialEdges::minutes);
        Edges.edge("Terms III", "with a PLAN or none (from its HANDS' first ACTS)", TrialEdges::withPlan);
        Edges.edge("Terms III", "THE CHANCE by a seed", TrialEdges::bySeed);
        Edges.edge("Terms III", "how many of these MINUTES it stands behind (all of them, if it does not fall;"
            + " 0, if it fell already)", TrialEdges::standsBehind);
        Edges.edge("Terms III", "A TRIAL goes on from how things are now", TrialEdges::changesNothing);
        Edges.edge("Promise 26", "LAST of a FLAG in a TRIAL with a PLAN (NONE: none), a seed (0 .. 2147483647),"
            + " so many MINUTES (1 .. 99, here and below); RANGE", TrialEdges::wrongLast);
    }

    private static void works() {
        Edges.edge("Terms III", "WORKS for a FLAG at (x, y): 0 a wall at (x, y - 1), 1 a dig from (x, y - 1) to (x, y),"
            + " 2 a dig from (x, y + 1) to (x, y), 3 wet (x, y)", TrialEdges::fourWorks);
        Edges.edge("Terms III", "those for which there is no such CELL do nothing", TrialEdges::noSuchCell);
        Edges.edge("Terms III", "one a MINUTE from the first on", TrialEdges::oneAMinute);
        Edges.edge("Terms III", "as a HAND would", TrialEdges::asHandWould);
        Edges.edge("Terms III", "(without tire, ahead of WAVES)", TrialEdges::withoutTire);
        Edges.edge("Terms III", "ahead of WAVES), then none", TrialEdges::thenNone);
        Edges.edge("Terms III", "NEXT PAIL: the ROW of two with the greatest LAST; then the least (16 ROWS)",
            TrialEdges::sixteenRows);
        Edges.edge("Terms III", "BEST ROW of n (1 .. 4) likewise", TrialEdges::bestRows);
        Edges.edge("Promise 27", "NEXT PAIL for a FLAG: 10 times the first WORK, and the second; RANGE",
            TrialEdges::wrongPail);
        Edges.edge("Promise 28", "BEST ROW of n WORKS for a FLAG: its numbers as digits, the first one first; RANGE",
            TrialEdges::wrongRow);
    }

    private static void again() {
        Edges.edge("Terms III", "AGAIN: at which MINUTE (from 0 on) of a TRIAL without a PLAN one must wet the FLAG's CELL"
            + " so that LAST is greatest", TrialEdges::againMinutes);
        Edges.edge("Terms III", "so that LAST is greatest; then the least", TrialEdges::againLeast);
        Edges.edge("Terms III", "none if that isn't more than without", TrialEdges::againNone);
        Edges.edge("Promise 29", "AGAIN for a FLAG: the MINUTE; NONE; RANGE", TrialEdges::wrongAgain);
    }

    private static void minutes() {
        TideKeep keep = Checks.on(CUT, "wave 50 1 0;");
        int[] minutes = {1, 2, 49, 50, 51, 52, 99};
        int[] last = {1, 2, 49, 50, 50, 50, 50};
        for (int i = 0; i < minutes.length; i++) {
            Checks.due("LAST in " + minutes[i] + " minutes", keep.last(0, -1, 1, minutes[i]), last[i]);
        }
        keep.pass(30);
        Checks.due("thirty minutes later", keep.last(0, -1, 1, 99), 20);
        keep.pass(20);
        Checks.due("in the minute of the wave", keep.last(0, -1, 1, 99), 0);
        TideKeep far = Checks.on(CUT, "wave 98 1 0; wave 99 1 0;");
        Checks.due("the 99th minute counts", far.last(0, -1, 1, 99), 98);
        far.pass(360);
        Checks.due("it fell", far.last(0, -1, 1, 99), 0);
        TideKeep late = Checks.on(CUT, "wave 99 1 0;");
        Checks.due("the hundredth does not", late.last(0, -1, 1, 99), 99);
        TideKeep beyond = Checks.on(CUT, "wave 0 1 9;");
        beyond.pass(360);
        Checks.due("beyond 359", beyond.last(0, -1, 1, 99), 99);
    }

    private static void withPlan() {
        TideKeep keep = Checks.on(CUT, "wave 3 1 0;");
        Checks.plan(keep, "hand wall 0 0;");
        Checks.plan(keep, "hand rest rest rest wall 0 0;");
        Checks.plan(keep, "hand rest rest rest rest wall 0 0;");
        Checks.due("none", keep.last(0, TideKeep.NONE, 1, 9), 3);
        Checks.due("a wall at once", keep.last(0, 0, 1, 9), 9);
        Checks.due("a wall in time", keep.last(0, 1, 1, 9), 9);
        Checks.due("a wall too late", keep.last(0, 2, 1, 9), 3);
        keep.work(0);
        Checks.due("the PLAN that holds does nothing in it", keep.last(0, TideKeep.NONE, 1, 9), 3);
        keep.work(2);
        keep.pass(2);
        Checks.due("from its first ACTS, not from where it is", keep.last(0, 2, 1, 9), 1);
        Checks.due("from its first ACTS", keep.last(0, 1, 1, 9), 1);
        Checks.due("by no PLAN either", keep.last(0, TideKeep.NONE, 1, 9), 1);
        keep.pass(7);
        Checks.due("the PLAN that holds went on from where it was", keep.cell(0, 0, 3), 1);
        TideKeep tired = Checks.on("beach 1 1; sand 5; fall 0; flag 0 0; tire 1;" + FIRM, "wave 3 1 0;");
        Checks.plan(tired, "hand rest wall 0 0;");
        tired.work(0);
        tired.pass(1);
        Checks.due("no rest is due from before", tired.last(0, 0, 1, 9), 9);
        tired.pass(1);
        Checks.due("its second ACT is too late then", tired.last(0, 0, 1, 9), 1);
    }

    private static void bySeed() {
        TideKeep keep = Checks.on(CUT, "tide 0 300 1 20; reach 1 1; level 0 0;");
        for (int seed : new int[] {0, 1, 2, 3, 9, 65536, 2147483646, 2147483647}) {
            long chance = Checks.step(seed);
            int last = 0;
            while (last < 30 && chance / 65536 % 100 >= 20) {
                last++;
                chance = Checks.step(chance);
            }
            Checks.due("LAST by seed " + seed, keep.last(0, -1, seed, 30), last);
        }
        keep.chance(2);
        Checks.due("THE CHANCE of now is not that of a TRIAL: seed 1 draws 38, 58, 13", keep.last(0, -1, 1, 3), 2);
        keep.pass(1);
        Checks.due("nor does a TRIAL change it: seed 2 draws 8", keep.sum(6), 1);
    }

    private static void standsBehind() {
        String[] seas = {"wave 0 1 0;", "wave 1 1 0;", "wave 4 1 0;", "wave 5 1 0;", ""};
        int[] last = {0, 1, 4, 5, 5};
        for (int i = 0; i < seas.length; i++) {
            TideKeep keep = Checks.on(CUT, seas[i]);
            Checks.due("LAST of five by " + seas[i], keep.last(0, -1, 1, 5), last[i]);
        }
        TideKeep fallen = Checks.on(CUT, "wave 0 1 0;");
        Checks.plan(fallen, "hand rest;");
        fallen.pass(1);
        Checks.due("it fell already", fallen.last(0, -1, 1, 5) + fallen.last(0, 0, 7, 99), 0);
        TideKeep built = Checks.on("beach 2 1; sand 5; fall 0; flag 0 0;" + FIRM, "");
        Checks.plan(built, "hand dig 0 0 1 0 dig 1 0 0 0 dig 1 0 0 0 rest rest rest rest rest;");
        built.work(0);
        built.pass(1);
        Checks.due("it fell", built.last(0, -1, 1, 5), 0);
        built.pass(2);
        Checks.due("its CELL is higher than ever", built.cell(0, 0, 0), 6);
        Checks.due("but it fell", built.last(0, -1, 1, 5) + built.last(0, 0, 1, 5), 0);
        TideKeep edge = Checks.on("beach 1 1; sand 5; fall 2; flag 0 0;" + FIRM,
            "wave 0 1 0; wave 1 1 0; wave 2 1 0; cut 1;");
        Checks.due("as low as fall lets it, it stands", edge.last(0, -1, 1, 2), 2);
        Checks.due("lower it falls", edge.last(0, -1, 1, 9), 2);
    }

    private static void changesNothing() {
        Edges.changesNothing("what would be", keep -> {
            keep.last(0, 0, 5, 30);
            keep.pail(0, 5, 30);
            keep.row(1, 3, 5, 30);
            keep.again(0, 5, 30);
            keep.stand(4, 3, 30);
            keep.outlasts(0, 1, 3, 30, true);
            keep.contest(0, 3, 30);
            keep.contest(1, 3, 30);
            Checks.due("which()", Checks.which(keep, "$$$$$$$$$") == TideKeep.NONE ? 1 : 0, 0);
            keep.high(4, 4, 0);
            keep.spill(60, 4, 0, 4);
            keep.join(9, 1, 1, 1, 50, 0);
        });
    }

    private static void wrongLast() {
        TideKeep keep = Checks.on("flag 0 0; flag 1 0;", "");
        Edges.bounds("flag", flag -> keep.last(flag, -1, 1, 5), 0, 1);
        Edges.bounds("plan, without any", plan -> keep.last(0, plan, 1, 5), TideKeep.NONE, TideKeep.NONE);
        Checks.plan(keep, "hand rest;");
        Checks.plan(keep, "hand rest;");
        Edges.bounds("plan", plan -> keep.last(0, plan, 1, 5), TideKeep.NONE, 1);
        Edges.bounds("seed", seed -> keep.last(0, -1, seed, 5), 0, Integer.MAX_VALUE);
        Edges.bounds("minutes", minutes -> keep.last(0, -1, 1, minutes), 1, 99);
        Edges.refused("without flags", new TideKeep().last(0, -1, 1, 5));
    }

    private static void duePail(String beach, String sea, int minutes, int want) {
        Checks.due("pail on " + beach + sea, Checks.on(beach, sea).pail(0, 1, minutes), want);
    }

    private static void dueRow(String beach, String sea, int[] nAndMinutes, int want) {
        Checks.due("row of " + nAndMinutes[0] + " on " + beach + sea,
            Checks.on(beach, sea).row(0, nAndMinutes[0], 1, nAndMinutes[1]), want);
    }

    /** In each of these beaches one work alone lets the flag last longest. */
    private static void fourWorks() {
        dueRow("beach 1 3; sand 3; fall 0; damp 5; dry 1; hump 8 4 1; pack 0; heap 5 0 2; flag 0 2;", "",
            new int[] {1, 8}, 0);
        dueRow("beach 1 3; sand 1; fall 1; damp 5; dry 4; hump 7 3 1; pack 0; heap 5 0 1; flag 0 1; heap 4 0 0;", "",
            new int[] {1, 7}, 1);
        dueRow("beach 2 3; sand 4; fall 0; damp 5; dry 4; hump 2 7 1; pack 0; heap 3 0 1; flag 0 1;", "wave 0 3 3;",
            new int[] {1, 9}, 2);
        dueRow("beach 2 2; sand 3; fall 0; damp 2; dry 2; hump 8 8 2; pack 0; heap 3 0 1; flag 0 1;", "",
            new int[] {1, 6}, 3);
        // A wall stands between, so that the waves stop.
        TideKeep wall = Checks.on("beach 1 2; sand 1; heap 2 0 1; flag 0 1; fall 0;" + FIRM,
            "wave 0 2 1; wave 1 2 1; cut 3;");
        Checks.due("without", wall.last(0, -1, 1, 9), 0);
        Checks.plan(wall, "hand wall 0 0;");
        Checks.due("with a wall", wall.last(0, 0, 1, 9), 9);
        Checks.due("the wall", wall.row(0, 1, 1, 9), 0);
        Checks.due("a wall, then a wall", wall.pail(0, 1, 9), 0);
    }

    private static void noSuchCell() {
        // A unit more would save the flag from a wave that cuts one, but there is none to dig from.
        dueRow("beach 1 1; sand 3; flag 0 0; fall 0;" + FIRM, "wave 0 1 0;", new int[] {1, 5}, 0);
        dueRow("beach 3 1; sand 3; flag 2 0; fall 0;" + FIRM, "wave 0 1 0;", new int[] {1, 5}, 0);
        dueRow("beach 3 1; sand 3; flag 0 0; fall 0;" + FIRM, "wave 0 1 0;", new int[] {4, 5}, 0);
        duePail("beach 8 1; sand 3; flag 7 0; fall 0;" + FIRM, "wave 1 1 0;", 5, 0);
        // At y 0 the dig from behind alone helps, at the last y the dig from ahead alone.
        dueRow("beach 3 2; sand 3; flag 1 0; fall 0;" + FIRM, "wave 0 1 0;", new int[] {1, 5}, 2);
        dueRow("beach 3 2; sand 1; heap 2 1 1; heap 1 0 1; heap 1 2 1; flag 1 1; fall 0;" + FIRM,
            "wave 0 2 1; wave 0 2 1; cut 1;", new int[] {1, 1}, 0);
        // At the last y all else is stone: by a unit more from behind the flag would lose one and stand.
        String sliding = "stone 0 0; stone 1 0; flag 0 1; fall 0; hump 8 0 0; pack 0;";
        dueRow("beach 2 2; sand 1; heap 2 0 1;" + sliding, "", new int[] {1, 5}, 0);
        dueRow("beach 2 2; sand 1; heap 2 0 1;" + sliding, "", new int[] {4, 5}, 0);
        // Wall and dig ahead of y 0 must not reach the cell with the greatest numbers either.
        TideKeep first = Checks.on("beach 2 2; sand 3; heap 9 0 1; stone 1 0; flag 0 0; fall 0;" + FIRM,
            "wave 0 1 0; wave 1 1 0;");
        Checks.due("two digs from behind", first.pail(0, 1, 9), 22);
    }

    private static void oneAMinute() {
        dueRow(BACKED, "wave 0 1 0;", new int[] {1, 9}, 2);
        dueRow(BACKED, "wave 1 1 0;", new int[] {2, 9}, 2);
        dueRow(BACKED, "wave 0 1 0; wave 1 1 0;", new int[] {2, 9}, 22);
        dueRow(BACKED, "wave 0 1 0; cut 2;", new int[] {2, 9}, 0);
        dueRow(BACKED, "wave 2 1 0;", new int[] {3, 9}, 2);
        dueRow(BACKED, "wave 3 1 0;", new int[] {4, 9}, 2);
        // Both digs in the minutes of the waves, or ahead of them: of alike rows the least.
        dueRow(BACKED, "wave 1 1 0; wave 3 1 0;", new int[] {4, 9}, 202);
        dueRow(BACKED, "wave 4 1 0;", new int[] {4, 5}, 2);
        dueRow(BACKED, "wave 0 1 0; wave 1 1 0;", new int[] {4, 1}, 2000);
        duePail("beach 1 2; sand 3; fall 0; damp 2; dry 2; hump 5 4 3; pack 0; heap 5 0 0; flag 0 0;", "", 8, 0);
        dueRow("beach 2 2; sand 3; fall 0; damp 2; dry 2; hump 8 8 2; pack 0; heap 3 0 1; flag 0 1;", "",
            new int[] {2, 6}, 33);
    }

    private static void asHandWould() {
        // Nothing is dug from a stone.
        dueRow("beach 1 2; sand 3; flag 0 0; fall 0; stone 0 1;" + FIRM, "wave 0 1 0;", new int[] {1, 5}, 0);
        // WET 12 becomes 15 at most, which holds 2: 16 would hold 1.
        dueRow("beach 2 1; sand 1; heap 2 0 0; flag 0 0; fall 0; damp 12; dry 60; hump 15 1 1; pack 0;", "",
            new int[] {1, 5}, 3);
    }

    private static void withoutTire() {
        String tired = BACKED + "tire 1;";
        dueRow(tired, "wave 0 1 0; wave 1 1 0;", new int[] {2, 9}, 22);
        dueRow(tired, "wave 0 1 0; wave 1 1 0; wave 2 1 0;", new int[] {3, 9}, 222);
        dueRow(tired, "wave 0 1 0;", new int[] {1, 9}, 2);
        duePail("beach 1 3; sand 2; fall 1; damp 4; dry 2; hump 8 5 1; pack 0; heap 4 0 1; flag 0 1; tire 1;", "", 2, 3);
        // A wall ahead of the wave of the same minute.
        TideKeep wall = Checks.on("beach 1 2; sand 1; heap 2 0 1; flag 0 1; fall 0;" + FIRM, "wave 0 2 1; cut 3;");
        Checks.due("ahead of the wave", wall.row(0, 1, 1, 9), 0);
        TideKeep wet = Checks.on("beach 2 2; sand 3; fall 0; damp 2; dry 2; hump 8 8 2; pack 0; heap 3 0 1; flag 0 1;", "");
        Checks.due("ahead of the sun and the slides", wet.row(0, 1, 1, 6), 3);
    }

    private static void thenNone() {
        // One wet in each minute would be too much here.
        dueRow("beach 2 2; sand 1; fall 0; damp 7; dry 1; hump 5 9 1; pack 0; heap 2 1 1; flag 1 1; tire 1;", "",
            new int[] {1, 7}, 3);
        duePail("beach 2 3; sand 4; fall 1; damp 5; dry 2; hump 6 7 2; pack 0; heap 5 1 2; flag 1 2; tire 0;", "", 5, 3);
        // A dig alone saves it once, whatever the row: by one more wave it falls.
        TideKeep keep = Checks.on(BACKED, "wave 0 1 0; wave 1 1 0; wave 2 1 0;");
        Checks.due("of two digs in three waves", keep.pail(0, 1, 9), 22);
        Checks.plan(keep, "hand dig 0 1 0 0;");
        keep.work(0);
        Checks.due("the PLAN that holds does nothing in it", keep.pail(0, 1, 9), 22);
        Checks.due("nor for one", keep.row(0, 1, 1, 9), 2);
    }

    /** Each row that can be the only best one is the best one somewhere; a wall makes a wall or a dig behind it vain. */
    private static void sixteenRows() {
        duePail("beach 2 3; sand 2; fall 0; damp 6; dry 1; hump 6 4 3; pack 0;heap 2 1 1; flag 1 1;heap 3 0 2;",
            "cut 0;", 6, 2);
        duePail("beach 2 3; sand 1; fall 1; damp 3; dry 1; hump 4 7 3; pack 0;heap 4 1 2; flag 1 2;", "", 7, 3);
        duePail("beach 1 3; sand 3; fall 0; damp 8; dry 1; hump 5 5 1; pack 0;heap 2 0 1; flag 0 1;", "", 9, 10);
        duePail("beach 1 3; sand 1; fall 0; damp 6; dry 1; hump 4 5 3; pack 0;heap 3 0 1; flag 0 1;heap 4 0 0;", "", 9, 11);
        duePail("beach 2 2; sand 4; fall 1; damp 7; dry 1; hump 4 6 2; pack 0;heap 5 0 1; flag 0 1;",
            "wave 1 3 0;wave 4 1 2;", 7, 12);
        duePail("beach 2 2; sand 4; fall 0; damp 6; dry 1; hump 4 8 2; pack 0;heap 5 0 1; flag 0 1;", "", 7, 13);
        duePail("beach 2 3; sand 1; fall 0; damp 7; dry 1; hump 4 9 2; pack 0;heap 4 1 1; flag 1 1;", "wave 0 2 0;", 6, 20);
        duePail("beach 2 3; sand 1; fall 0; damp 5; dry 2; hump 5 3 3; pack 0;heap 4 1 1; flag 1 1;", "wave 0 1 2;", 9, 21);
        duePail("beach 2 2; sand 4; fall 0; damp 2; dry 3; hump 2 6 1; pack 0;heap 5 0 1; flag 0 1;", "wave 1 1 6;", 8, 22);
        duePail("beach 2 2; sand 3; fall 0; damp 4; dry 1; hump 3 7 1; pack 0;heap 4 0 1; flag 0 1;", "wave 0 2 2;", 8, 23);
        duePail("beach 2 3; sand 3; fall 1; damp 3; dry 2; hump 7 6 3; pack 0;heap 3 0 1; flag 0 1;", "", 4, 30);
        duePail("beach 2 3; sand 4; fall 0; damp 1; dry 4; hump 5 7 1; pack 0;heap 5 1 1; flag 1 1;", "wave 3 1 3;", 4, 31);
        duePail("beach 2 2; sand 1; fall 0; damp 3; dry 4; hump 7 8 2; pack 0;heap 2 1 1; flag 1 1;", "wave 4 2 0;", 6, 32);
        duePail("beach 2 3; sand 1; fall 0; damp 0; dry 1; hump 3 9 2; pack 0;heap 2 1 1; flag 1 1;", "", 5, 33);
        duePail(CUT, "", 9, 0);
        duePail(CUT, "wave 0 1 0;", 9, 0);
        TideKeep fallen = Checks.on("beach 1 2; sand 5; fall 0; flag 0 0;" + FIRM, "wave 0 1 4;");
        fallen.pass(1);
        Checks.due("for a flag that fell all rows are alike", fallen.pail(0, 1, 9), 0);
    }

    private static void bestRows() {
        String wet = "beach 2 2; sand 3; fall 0; damp 2; dry 2; hump 8 8 2; pack 0; heap 3 0 1; flag 0 1;";
        dueRow(wet, "", new int[] {1, 6}, 3);
        dueRow(wet, "", new int[] {2, 6}, 33);
        String dry = "beach 2 2; sand 1; fall 0; damp 0; dry 1; hump 6 6 1; pack 0; heap 4 0 1; flag 0 1;";
        dueRow(dry, "", new int[] {3, 9}, 333);
        dueRow("beach 1 3; sand 2; fall 0; damp 3; dry 1; hump 2 6 2; pack 0; heap 4 0 1; flag 0 1;", "",
            new int[] {3, 7}, 103);
        dueRow("beach 1 3; sand 1; fall 0; damp 1; dry 2; hump 2 8 2; pack 0; heap 5 0 1; flag 0 1;", "wave 2 1 0;",
            new int[] {3, 9}, 131);
        dueRow("beach 2 2; sand 4; fall 0; damp 5; dry 4; hump 5 8 3; pack 0; heap 1 1 1; flag 1 1; heap 4 1 1;",
            "wave 3 1 4;", new int[] {4, 7}, 2222);
        dueRow("beach 2 2; sand 2; fall 0; damp 0; dry 4; hump 4 3 1; pack 0; heap 4 1 1; flag 1 1; heap 2 0 0;",
            "wave 2 1 3;wave 4 2 0;", new int[] {4, 6}, 3221);
        dueRow("beach 2 3; sand 3; fall 1; damp 2; dry 1; hump 7 7 1; pack 0; heap 3 0 1; flag 0 1;", "wave 4 2 5;",
            new int[] {4, 5}, 3310);
        dueRow("beach 2 3; sand 3; fall 1; damp 2; dry 1; hump 6 3 1; pack 0; heap 3 0 1; flag 0 1;", "wave 3 2 1;",
            new int[] {4, 8}, 3323);
        dueRow(CUT, "", new int[] {4, 9}, 0);
        dueRow(CUT, "wave 0 1 0;", new int[] {4, 9}, 0);
    }

    private static void wrongPail() {
        TideKeep keep = Checks.on("flag 0 0; flag 1 0;", "");
        Edges.bounds("flag", flag -> keep.pail(flag, 1, 5), 0, 1);
        Edges.bounds("seed", seed -> keep.pail(0, seed, 5), 0, Integer.MAX_VALUE);
        Edges.bounds("minutes", minutes -> keep.pail(0, 1, minutes), 1, 99);
        Edges.refused("without flags", new TideKeep().pail(0, 1, 5));
        duePail(BACKED, "wave 0 1 0; wave 1 1 0;", 9, 22);
        duePail(BACKED, "wave 0 1 0;", 9, 20);
        duePail(BACKED, "wave 1 1 0;", 9, 2);
        TideKeep second = Checks.on("beach 2 2; sand 3; flag 0 1; flag 1 0; fall 0;" + FIRM, "wave 0 1 0;");
        Checks.due("for each flag its own", second.pail(0, 1, 9) * 100 + second.pail(1, 1, 9), 20);
        TideKeep chance = Checks.on(BACKED, "tide 0 1 1 39; level 0 0; reach 1 1;");
        // Seed 1 draws 38: a wave, and then 15: another one. Seed 2 draws 8, then 14; seed 3 draws 47, then 7; seed 5: 55, 57.
        Checks.due("by seed 1", chance.pail(0, 1, 9), 22);
        Checks.due("by seed 3", chance.pail(0, 3, 9), 2);
        Checks.due("by seed 5", chance.pail(0, 5, 9), 0);
    }

    private static void wrongRow() {
        TideKeep keep = Checks.on("flag 0 0; flag 1 0;", "");
        Edges.bounds("flag", flag -> keep.row(flag, 2, 1, 5), 0, 1);
        Edges.bounds("n", n -> keep.row(0, n, 1, 5), 1, 4);
        Edges.bounds("seed", seed -> keep.row(0, 2, seed, 5), 0, Integer.MAX_VALUE);
        Edges.bounds("minutes", minutes -> keep.row(0, 2, 1, minutes), 1, 99);
        Edges.refused("without flags", new TideKeep().row(0, 1, 1, 5));
        dueRow(BACKED, "wave 0 1 0;", new int[] {3, 9}, 200);
        dueRow(BACKED, "wave 2 1 0;", new int[] {3, 9}, 2);
        dueRow(BACKED, "wave 0 1 0; wave 2 1 0;", new int[] {4, 9}, 2020);
    }

    private static final String DRYING = "beach 1 2; sand 1; heap 2 0 1; flag 0 1; fall 0; damp 2; dry 2; hump 3 3 1; pack 0;";

    private static void againMinutes() {
        // WET 2, and less by the sun of minutes 1 and 3: HOLDS 6, 6, 7, and 1 at WET 0. A wet of minute 3 leaves WET 4.
        TideKeep last = Checks.on("beach 1 2; sand 1; heap 4 0 1; flag 0 1; fall 0; damp 2; dry 2; hump 1 6 1; pack 0;", "");
        Checks.due("without", last.last(0, -1, 1, 99), 3);
        Checks.due("in the last minute", last.again(0, 1, 4), 3);
        TideKeep first = Checks.on("beach 2 2; sand 3; fall 0; damp 2; dry 2; hump 8 8 2; pack 0; heap 3 0 1; flag 0 1;", "");
        Checks.due("without", first.last(0, -1, 1, 99), 0);
        Checks.due("in minute 0", first.again(0, 1, 1), 0);
        Checks.due("in minute 0", first.again(0, 1, 6), 0);
        TideKeep middle = Checks.on(DRYING, "");
        Checks.due("without", middle.last(0, -1, 1, 99), 3);
        Checks.due("too wet at 0", middle.again(0, 1, 99), 1);
        Checks.plan(middle, "hand wet 0 1;");
        middle.work(0);
        Checks.due("without a PLAN", middle.again(0, 1, 99), 1);
        middle.work(TideKeep.NONE);
        middle.pass(3);
        Checks.due("from now on", middle.again(0, 1, 9), 0);
    }

    private static void againLeast() {
        TideKeep keep = Checks.on(DRYING, "");
        // Wet at 1, 2 or 3 it lasts a fourth minute alike; of more minutes the later wet lasts no longer.
        Checks.due("of alike ones the least", keep.again(0, 1, 4), 1);
        TideKeep any = Checks.on("beach 1 2; sand 1; heap 1 0 1; flag 0 1; fall 0; damp 1; dry 5; hump 8 20 0; pack 0;", "");
        Checks.due("it needs none", any.last(0, -1, 1, 99), 99);
        TideKeep later = Checks.on("beach 1 2; sand 1; heap 3 0 1; flag 0 1; fall 0; damp 1; dry 5; hump 8 20 0; pack 0;", "");
        Checks.due("without", later.last(0, -1, 1, 99), 4);
        Checks.due("in any of the first five", later.again(0, 1, 9), 0);
    }

    private static void againNone() {
        TideKeep keep = Checks.on(DRYING, "");
        Checks.due("it stands all the minutes without", keep.again(0, 1, 3), TideKeep.NONE);
        Checks.due("a minute more, and one must", keep.again(0, 1, 4), 1);
        keep.pass(4);
        Checks.due("it fell already", keep.again(0, 1, 9), TideKeep.NONE);
        TideKeep cut = Checks.on(CUT, "wave 3 1 0;");
        Checks.due("wet does not help against a wave", cut.again(0, 1, 9), TideKeep.NONE);
        Checks.due("nor is it needed ahead of it", cut.again(0, 1, 3), TideKeep.NONE);
        TideKeep worse = Checks.on("beach 1 2; sand 1; heap 4 0 1; flag 0 1; fall 0; damp 2; dry 2; hump 2 3 3; pack 0;", "");
        Checks.due("it lasts no longer by any wet", worse.again(0, 1, 9), TideKeep.NONE);
    }

    private static void wrongAgain() {
        TideKeep keep = Checks.on("flag 0 0; flag 1 0;", "");
        Edges.bounds("flag", flag -> keep.again(flag, 1, 5), 0, 1);
        Edges.bounds("seed", seed -> keep.again(0, seed, 5), 0, Integer.MAX_VALUE);
        Edges.bounds("minutes", minutes -> keep.again(0, 1, minutes), 1, 99);
        Edges.refused("without flags", new TideKeep().again(0, 1, 5));
    }
}
