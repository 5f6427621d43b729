/** Edges of CELLS, of UNITS that go, and of HANDS; of cell() and work(). */
final class HandEdges {
    // Sand that holds 21 at any wet but 0 and 16, so that nothing slides.
    private static final String FIRM = "hump 8 20 0; damp 8; dry 60; pack 0;";

    private HandEdges() {
    }

    static void all() {
        Edges.edge("Terms II", "A CELL (numbered columns times y, and x; y 0 is nearest to the sea)",
            HandEdges::cellNumbers);
        Edges.edge("Terms II", "has HEIGHT, WET 0 .. 16, PACK 0 .. 4, and perhaps a STONE", HandEdges::bounds);
        Edges.edge("Terms II", "HEIGHT one less and one more", HandEdges::heights);
        Edges.edge("Terms II", "WET of the other becomes (its WET times its HEIGHT ahead of that, and WET of the one) over"
            + " (that HEIGHT and 1), cut", HandEdges::wetIsCut);
        Edges.edge("Terms II", "PACK of the other becomes 0", HandEdges::packOfOther);
        Edges.edge("Terms II", "HANDS of the PLAN that holds, by numbers", HandEdges::byNumbers);
        Edges.edge("Terms II", "each does its next ACT, and behind its last one the first again, as long as the PLAN holds",
            HandEdges::firstAgain);
        Edges.edge("Terms II", "dig: a UNIT GOES (nothing, if there is none, or a STONE at one of both)",
            HandEdges::noDig);
        Edges.edge("Terms II", "and PACK of the CELL from which it came becomes 0", HandEdges::packOfOne);
        Edges.edge("Terms II", "pack: PACK one more, 4 at most", HandEdges::packAtMost);
        Edges.edge("Terms II", "wet: WET four more, 15 at most", HandEdges::wetAtMost);
        Edges.edge("Terms II", "wall: there is a STONE", HandEdges::wall);
        Edges.edge("Terms II", "rest: nothing", HandEdges::rest);
        Edges.edge("Terms II", "With tire above 0, behind each so many ACTS a HAND rests a MINUTE (in which it does no ACT)",
            HandEdges::tire);
        Edges.edge("Promise 12", "A PLAN holds from now on (NONE: none)", HandEdges::holdsFromNow);
        Edges.edge("Promise 12", "from its HANDS' first ACTS: 1", HandEdges::fromFirstActs);
        Edges.edge("Promise 12", "from its HANDS' first ACTS: 1; RANGE", HandEdges::wrongWork);
        Edges.edge("Promise 14", "Of a CELL, what 0: HEIGHT, 1: WET, 2: PACK, 3: 1 if there is a STONE, else 0, 4: HOLDS",
            HandEdges::cell);
        Edges.edge("Promise 14", "4: HOLDS; RANGE", HandEdges::wrongCell);
    }

    private static void cellNumbers() {
        TideKeep keep = Checks.on("beach 3 2; sand 2; flag 0 0; flag 2 1; flag 0 1;" + FIRM, "wave 0 1 9;");
        Checks.due("the first cell", keep.flag(0, 1), 0);
        Checks.due("the last cell", keep.flag(1, 1), 5);
        Checks.due("the first of y 1", keep.flag(2, 1), 3);
        keep.pass(1);
        for (int x = 0; x < 3; x++) {
            Checks.due("y 0 is wet, x " + x, keep.cell(x, 0, 1), 16);
            Checks.due("y 1 is not, x " + x, keep.cell(x, 1, 1), 8);
        }
        TideKeep wide = Checks.on("beach 8 8; flag 7 7; flag 7 0; flag 0 7;", "");
        Checks.due("the greatest number", wide.flag(0, 1), 63);
        Checks.due("the end of y 0", wide.flag(1, 1), 7);
        Checks.due("the first of y 7", wide.flag(2, 1), 56);
    }

    /** A beach on which a plan has held for some minutes. */
    private static TideKeep worked(String beach, String plan, int minutes) {
        TideKeep keep = Checks.on(beach, "");
        Checks.due("plan() of " + plan, Checks.plan(keep, plan), 0);
        keep.work(0);
        keep.pass(minutes);
        return keep;
    }

    /** Whatever hands, waves and the sun do, WET and PACK stay in their bounds, and reach both ends. */
    private static void bounds() {
        TideKeep keep = Checks.on("beach 2 2; sand 12; damp 3; dry 1; pack 0;",
            "tide 12 30 1 100; reach 2 2; level 0 99;");
        Checks.plan(keep, "hand pack 0 0 wet 0 1 wet 0 1;hand wet 1 1 wall 1 0 pack 1 1;hand pack 0 0;hand dig 0 0 0 1;");
        int wets = 0;
        int packs = 0;
        for (int minute = 0; minute < 42; minute++) {
            if (minute % 25 == 5) {
                keep.work(0);
            }
            if (minute % 25 == 10) {
                keep.work(TideKeep.NONE);
            }
            for (int c = 0; c < 4; c++) {
                wets |= 1 << keep.cell(c % 2, c / 2, 1) + 1;
                packs |= 1 << keep.cell(c % 2, c / 2, 2) + 1;
            }
            keep.pass(1);
        }
        Checks.due("WET below 0 or above 16", wets & ~(0x1ffff << 1), 0);
        Checks.due("WET 0 and 16", wets >> 1 & 0x10001, 0x10001);
        Checks.due("PACK below 0 or above 4", packs & ~(0x1f << 1), 0);
    }

    private static void heights() {
        Checks.dueHeights(worked("beach 2 1; sand 1;" + FIRM, "hand dig 0 0 1 0;", 1), " 0 2");
        Checks.dueHeights(worked("beach 3 3; sand 2;" + FIRM, "hand dig 2 2 0 0;", 1), " 3 2 2 2 2 2 2 2 1");
        TideKeep most = worked("beach 2 1; sand 40; heap 40 0 0; heap 19 0 0; heap 40 1 0; heap 19 1 0;" + FIRM,
            "hand dig 0 0 1 0;", 1);
        Checks.dueHeights(most, " 98 100");
        Checks.due("HEIGHTS together", most.sum(0), 198);
    }

    private static void wetIsCut() {
        String beach = "beach 2 1; sand 3;" + FIRM;
        Checks.due("(8 * 3 + 12) / 4", worked(beach, "hand wet 0 0 dig 0 0 1 0;", 2).cell(1, 0, 1), 9);
        Checks.due("(9 * 4 + 12) / 5 is cut", worked(beach, "hand wet 0 0 dig 0 0 1 0 dig 0 0 1 0;", 3).cell(1, 0, 1), 9);
        Checks.due("(9 * 5 + 12) / 6 is cut", worked(beach, "hand wet 0 0 dig 0 0 1 0 dig 0 0 1 0 dig 0 0 1 0;", 4)
            .cell(1, 0, 1), 9);
        Checks.due("(12 * 3 + 8) / 4", worked(beach, "hand wet 1 0 dig 0 0 1 0;", 2).cell(1, 0, 1), 11);
        Checks.due("(15 * 3 + 8) / 4 is cut", worked(beach, "hand wet 1 0 wet 1 0 dig 0 0 1 0;", 3).cell(1, 0, 1), 13);
        Checks.due("WET of the one stays", worked(beach, "hand wet 0 0 dig 0 0 1 0;", 2).cell(0, 0, 1), 12);
        String bare = "beach 2 1; sand 0; heap 2 0 0;" + FIRM;
        Checks.due("of no HEIGHT it is the unit's", worked(bare, "hand wet 0 0 dig 0 0 1 0;", 2).cell(1, 0, 1), 12);
        Checks.due("of no HEIGHT it is the unit's", worked(bare, "hand wet 1 0 dig 0 0 1 0;", 2).cell(1, 0, 1), 8);
        Checks.due("WET where the last unit was stays", worked("beach 2 1; sand 0; heap 1 0 0;" + FIRM,
            "hand wet 0 0 dig 0 0 1 0;", 2).cell(0, 0, 1), 12);
        // A slide: of 3 and 0 by HOLDS 1 one goes: (8 * 0 + 12) / 1.
        String loose = "beach 2 1; sand 0; heap 3 0 0; hump 8 0 0; damp 8; dry 60; pack 0;";
        Checks.due("a unit that slides", worked(loose, "hand wet 0 0;", 1).cell(1, 0, 1), 12);
        String more = "beach 2 1; sand 2; heap 3 0 0; hump 8 0 0; damp 8; dry 60; pack 0;";
        Checks.due("(8 * 2 + 12) / 3 is cut", worked(more, "hand wet 0 0;", 1).cell(1, 0, 1), 9);
    }

    private static void packOfOther() {
        String beach = "beach 2 1; sand 3; pack 5; hump 8 20 0; damp 8; dry 60;";
        TideKeep dug = worked(beach, "hand pack 1 0 pack 1 0 dig 0 0 1 0;", 2);
        Checks.due("ahead of the dig", dug.cell(1, 0, 2), 2);
        dug.pass(1);
        Checks.due("behind the dig", dug.cell(1, 0, 2), 0);
        String loose = "beach 2 1; sand 0; heap 3 0 0; hump 8 0 0; damp 8; dry 60; pack 0;";
        TideKeep slid = worked(loose, "hand pack 1 0; hand pack 0 0;", 1);
        Checks.dueHeights(slid, " 2 1");
        Checks.due("PACK of the other", slid.cell(1, 0, 2), 0);
        Checks.due("PACK of the one from which it slid stays", slid.cell(0, 0, 2), 1);
    }

    private static void byNumbers() {
        String beach = "beach 3 1; sand 0; heap 1 0 0;" + FIRM;
        Checks.dueHeights(worked(beach, "hand dig 0 0 1 0;hand dig 1 0 2 0;", 1), " 0 0 1");
        Checks.dueHeights(worked(beach, "hand dig 1 0 2 0;hand dig 0 0 1 0;", 1), " 0 1 0");
        Checks.dueHeights(worked(beach, "hand rest;hand dig 0 0 1 0;hand rest;hand dig 1 0 2 0;", 1), " 0 0 1");
        Checks.dueHeights(worked(beach, "hand wall 1 0;hand dig 0 0 1 0;", 1), " 1 0 0");
        Checks.dueHeights(worked(beach, "hand dig 0 0 1 0;hand wall 1 0;", 1), " 0 1 0");
    }

    private static void firstAgain() {
        String plan = "hand pack 0 0" + " rest".repeat(7) + ";hand pack 1 0;hand pack 2 0 rest rest;";
        TideKeep keep = Checks.on("beach 3 1; " + FIRM, "");
        Checks.plan(keep, plan);
        keep.work(0);
        int[] eighth = {1, 1, 1, 1, 1, 1, 1, 1, 2, 2};
        int[] each = {1, 2, 3, 4, 4, 4, 4, 4, 4, 4};
        int[] third = {1, 1, 1, 2, 2, 2, 3, 3, 3, 4};
        for (int m = 0; m < eighth.length; m++) {
            keep.pass(1);
            Checks.due("of eight acts, minute " + m, keep.cell(0, 0, 2), eighth[m]);
            Checks.due("of one act, minute " + m, keep.cell(1, 0, 2), each[m]);
            Checks.due("of three acts, minute " + m, keep.cell(2, 0, 2), third[m]);
        }
        TideKeep ended = worked("beach 1 1;" + FIRM, "hand pack 0 0;", 2);
        ended.work(TideKeep.NONE);
        ended.pass(5);
        Checks.due("none holds any longer", ended.cell(0, 0, 2), 2);
    }

    private static void noDig() {
        String plan = "hand pack 0 0 pack 1 0 dig 0 0 1 0;";
        String[] beaches = {"beach 2 1; sand 0; heap 5 1 0;", "beach 2 1; sand 3; stone 0 0;",
            "beach 2 1; sand 3; stone 1 0;",
            "beach 2 1; sand 3; stone 0 0; stone 1 0;"};
        String[] heights = {" 0 5", " 3 3", " 3 3", " 3 3"};
        for (int i = 0; i < beaches.length; i++) {
            TideKeep keep = worked(beaches[i] + FIRM, plan, 3);
            Checks.dueHeights(keep, heights[i]);
            Checks.due("PACK of both stays on " + beaches[i], keep.cell(0, 0, 2) * 10 + keep.cell(1, 0, 2), 11);
            Checks.due("WET stays on " + beaches[i], keep.cell(1, 0, 1), 8);
        }
        Checks.dueHeights(worked("beach 2 1; sand 0; heap 2 0 0;" + FIRM, "hand dig 0 0 1 0;", 5), " 0 2");
    }

    private static void packOfOne() {
        TideKeep keep = worked("beach 2 1; sand 3; pack 5; hump 8 20 0; damp 8; dry 60;",
            "hand pack 0 0 pack 0 0 dig 0 0 1 0;", 2);
        Checks.due("ahead of the dig", keep.cell(0, 0, 2), 2);
        keep.pass(1);
        Checks.due("behind the dig", keep.cell(0, 0, 2), 0);
    }

    private static void packAtMost() {
        TideKeep keep = Checks.on("beach 2 1; stone 1 0;" + FIRM, "");
        Checks.plan(keep, "hand pack 0 0;hand pack 1 0;");
        keep.work(0);
        int[] pack = {1, 2, 3, 4, 4, 4};
        for (int m = 0; m < pack.length; m++) {
            keep.pass(1);
            Checks.due("PACK behind minute " + m, keep.cell(0, 0, 2), pack[m]);
            Checks.due("PACK at a stone behind minute " + m, keep.cell(1, 0, 2), pack[m]);
        }
    }

    private static void wetAtMost() {
        int[] damp = {0, 1, 8, 10, 11, 12, 14, 15, 16};
        int[] wet = {4, 5, 12, 14, 15, 15, 15, 15, 15};
        for (int i = 0; i < damp.length; i++) {
            TideKeep keep = worked("beach 1 1; dry 60; damp " + damp[i] + ";", "hand wet 0 0;", 1);
            Checks.due("wet on WET " + damp[i], keep.cell(0, 0, 1), wet[i]);
        }
        Checks.due("again and again", worked("beach 1 1; dry 60; damp 0;", "hand wet 0 0;", 9).cell(0, 0, 1), 15);
    }

    private static void wall() {
        TideKeep keep = worked("beach 2 1; sand 3; stone 0 0;" + FIRM, "hand wall 0 0;hand wall 1 0;", 1);
        Checks.due("where there was one", keep.cell(0, 0, 3), 1);
        Checks.due("where there was none", keep.cell(1, 0, 3), 1);
        Checks.dueHeights(keep, " 3 3");
        Checks.due("WET stays", keep.cell(1, 0, 1), 8);
        keep.pass(1);
        Checks.due("a wall more", keep.cell(0, 0, 3) + keep.cell(1, 0, 3), 2);
    }

    private static void rest() {
        TideKeep keep = worked("beach 2 2; sand 3; heap 5 1 1;" + FIRM, "hand rest;hand rest rest;", 6);
        Checks.dueHeights(keep, " 3 3 3 8");
        for (int c = 0; c < 4; c++) {
            Checks.due("WET", keep.cell(c % 2, c / 2, 1), 8);
            Checks.due("PACK and STONE", keep.cell(c % 2, c / 2, 2) + keep.cell(c % 2, c / 2, 3), 0);
        }
    }

    /** Heights dug to the far side of a stone, so that nothing slides back. */
    private static int dug(int tire, String plan, int minutes) {
        return worked("beach 3 1; sand 40; stone 1 0; tire " + tire + ";" + FIRM, plan, minutes).cell(2, 0, 0) - 40;
    }

    private static void tire() {
        String dig = "hand dig 0 0 2 0;";
        Checks.due("tire 0: no rest", dug(0, dig, 40), 40);
        int[] byOne = {0, 1, 1, 2, 2, 3, 3};
        int[] byThree = {0, 1, 2, 3, 3, 4, 5, 6, 6, 7};
        for (int m = 0; m < byOne.length; m++) {
            Checks.due("tire 1, behind " + m, dug(1, dig, m), byOne[m]);
        }
        for (int m = 0; m < byThree.length; m++) {
            Checks.due("tire 3, behind " + m, dug(3, dig, m), byThree[m]);
        }
        int[] minutes = {19, 20, 21, 22, 41, 42, 43};
        int[] byTwenty = {19, 20, 20, 21, 40, 40, 40};
        for (int i = 0; i < minutes.length; i++) {
            Checks.due("tire 20, behind " + minutes[i], dug(20, dig, minutes[i]), byTwenty[i]);
        }
        Checks.due("the ACT that is next comes behind the rest", dug(2, "hand dig 0 0 2 0 rest dig 0 0 2 0;", 4), 2);
        Checks.due("a rest told is an ACT, too", dug(2, "hand rest dig 0 0 2 0;", 4), 1);
        Checks.due("a rest told is an ACT, too", dug(2, "hand rest dig 0 0 2 0;", 5), 2);
        Checks.due("a dig that does nothing, too", dug(1, "hand dig 1 0 0 0 dig 0 0 2 0;", 3), 1);
        TideKeep two = worked("beach 2 1; tire 2;" + FIRM, "hand pack 0 0;hand pack 1 0;", 4);
        Checks.due("each hand tires for itself", two.cell(0, 0, 2) * 10 + two.cell(1, 0, 2), 33);
    }

    private static void holdsFromNow() {
        TideKeep keep = Checks.on("beach 1 1;" + FIRM, "");
        Checks.due("none, where there are no plans", keep.work(TideKeep.NONE), 1);
        Checks.plan(keep, "hand pack 0 0;");
        keep.pass(2);
        Checks.due("not yet", keep.cell(0, 0, 2), 0);
        Checks.due("work(0)", keep.work(0), 1);
        Checks.due("it does nothing at once", keep.cell(0, 0, 2), 0);
        keep.pass(1);
        Checks.due("from now on", keep.cell(0, 0, 2), 1);
        Checks.due("none", keep.work(TideKeep.NONE), 1);
        Checks.due("none holds", keep.told(23), TideKeep.NONE);
        keep.pass(2);
        Checks.due("no longer", keep.cell(0, 0, 2), 1);
    }

    private static void fromFirstActs() {
        TideKeep keep = Checks.on("beach 2 1; tire 3;" + FIRM, "");
        Checks.plan(keep, "hand pack 0 0 rest rest;");
        Checks.plan(keep, "hand rest rest pack 1 0;");
        keep.work(0);
        keep.pass(1);
        Checks.due("the first ACT", keep.cell(0, 0, 2), 1);
        keep.work(0);
        keep.pass(1);
        Checks.due("the first ACT again", keep.cell(0, 0, 2), 2);
        keep.pass(1);
        keep.work(1);
        keep.pass(2);
        Checks.due("two ACTS of the other plan", keep.cell(1, 0, 2), 0);
        keep.pass(1);
        Checks.due("its third one: no rest is due from before", keep.cell(1, 0, 2), 1);
        keep.work(0);
        keep.pass(1);
        Checks.due("no rest is due from before", keep.cell(0, 0, 2), 3);
    }

    private static void wrongWork() {
        TideKeep keep = new TideKeep();
        Edges.bounds("work without plans", keep::work, TideKeep.NONE, TideKeep.NONE);
        Checks.plan(keep, "hand rest;");
        Edges.bounds("work with a plan", keep::work, TideKeep.NONE, 0);
        Checks.plan(keep, "hand rest;");
        Checks.plan(keep, "hand rest;");
        Edges.bounds("work with three plans", keep::work, TideKeep.NONE, 2);
        Edges.changesNothing("work() of no plan", other -> {
            Edges.refused("work(2)", other.work(2));
            Edges.refused("work(-2)", other.work(-2));
        });
    }

    private static void cell() {
        TideKeep keep = worked("beach 3 2; sand 5; damp 6; hump 4 9 2; pack 3; stone 2 1; heap 7 1 1; dry 60;",
            "hand pack 1 1 wall 0 0;", 2);
        int[] want = {12, 6, 1, 0, 1 + 9 - 2 * 2 + 3};
        for (int what = 0; what < 5; what++) {
            Checks.due("cell(1, 1, " + what + ")", keep.cell(1, 1, what), want[what]);
        }
        Checks.due("a stone told", keep.cell(2, 1, 3), 1);
        Checks.due("a wall", keep.cell(0, 0, 3), 1);
        Checks.due("none", keep.cell(2, 0, 3), 0);
    }

    private static void wrongCell() {
        for (String size : new String[] {"1 1", "8 8", "2 7", "7 2"}) {
            TideKeep keep = Checks.on("beach " + size + ";", "");
            Edges.bounds("x of " + size, x -> keep.cell(x, 0, 0), 0, size.charAt(0) - '1');
            Edges.bounds("y of " + size, y -> keep.cell(0, y, 0), 0, size.charAt(2) - '1');
            Edges.bounds("what of " + size, what -> keep.cell(0, 0, what), 0, 4);
        }
    }
}
