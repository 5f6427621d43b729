/** Edges of WAVES, of THE CHANCE and of chance(). */
final class WaveEdges {
    private static final String FIRM = "hump 8 20 0; damp 8; dry 60; pack 0;";

    private WaveEdges() {
    }

    static void all() {
        Edges.edge("Terms II", "WAVES of this minute, by numbers", WaveEdges::byNumbers);
        Edges.edge("Terms II", "then, if the minute is one of the tide's (from its first on, each how many)",
            WaveEdges::thenTide);
        Edges.edge("Terms II", "one of 100 is drawn by THE CHANCE: below its number a WAVE comes",
            WaveEdges::belowNumber);
        Edges.edge("Terms II", "whose REACH and then LEVEL are drawn (least and what is drawn of greatest less least and 1)",
            WaveEdges::drawnReachAndLevel);
        Edges.edge("Terms II", "A WAVE goes column by column: from y 0 on through REACH CELLS, as far as there are",
            WaveEdges::reach);
        Edges.edge("Terms II", "at a STONE it stops, and the CELL behind it, if there is one, has WET 16",
            WaveEdges::stones);
        Edges.edge("Terms II", "at a CELL with HEIGHT above LEVEL: it stops, WET is 16", WaveEdges::aboveLevel);
        Edges.edge("Terms II", "cut units of HEIGHT are carried off (LOST; not more than there are)",
            WaveEdges::carriedOff);
        Edges.edge("Terms II", "else WET is 16 there and it goes on", WaveEdges::goesOn);
        Edges.edge("Terms II", "s becomes (1103515245 times s and 12345) modulo 2147483648 each time",
            WaveEdges::modulo);
        Edges.edge("Terms II", "what is drawn of n is s over 65536 (cut), modulo n", WaveEdges::drawn);
        Edges.edge("Terms II", "s is 1 at first", WaveEdges::atFirst);
        Edges.edge("Promise 11", "THE CHANCE is a seed (0 .. 2147483647): 1; RANGE", WaveEdges::chance);
    }

    /** A beach behind the first minute of a sea. */
    private static TideKeep met(String beach, String sea) {
        TideKeep keep = Checks.on(beach, sea);
        keep.pass(1);
        return keep;
    }

    private static void byNumbers() {
        String beach = "beach 1 1; sand 3;" + FIRM;
        Checks.dueHeights(met(beach, "wave 0 1 2; wave 0 1 1;"), " 1");
        Checks.dueHeights(met(beach, "wave 0 1 1; wave 0 1 2;"), " 2");
        Checks.dueHeights(met(beach, "wave 1 1 0; wave 0 1 2; wave 2 1 0; wave 0 1 1;"), " 1");
        TideKeep keep = Checks.on(beach, "wave 2 1 0; wave 0 1 0; wave 359 1 0;");
        int[] came = {1, 1, 2, 2};
        for (int minute = 0; minute < came.length; minute++) {
            keep.pass(1);
            Checks.due("WAVES behind minute " + minute, keep.sum(6), came[minute]);
        }
        keep.pass(355);
        Checks.due("behind minute 358", keep.sum(6), 2);
        keep.pass(1);
        Checks.due("behind minute 359", keep.sum(6), 3);
        Checks.due("twelve of one minute", met(beach, "wave 0 1 0;".repeat(12)).sum(6), 12);
    }

    private static void thenTide() {
        String beach = "beach 1 1; sand 3;" + FIRM;
        Checks.dueHeights(met(beach, "tide 0 0 1 100; level 2 2; wave 0 1 1;"), " 2");
        Checks.dueHeights(met(beach, "tide 0 0 1 100; level 1 1; wave 0 1 2;"), " 1");
        int[][] tides = {{3, 11, 4}, {3, 10, 4}, {0, 12, 1}, {0, 12, 5}, {5, 5, 1}, {5, 6, 60}};
        for (int[] tide : tides) {
            TideKeep keep = Checks.on(beach, "tide " + tide[0] + " " + tide[1] + " " + tide[2] + " 100;");
            int came = 0;
            for (int minute = 0; minute < 14; minute++) {
                keep.pass(1);
                for (int comes = tide[0]; comes <= tide[1]; comes += tide[2]) {
                    came += comes == minute ? 1 : 0;
                }
                Checks.due("WAVES behind minute " + minute, keep.sum(6), came);
            }
        }
    }

    private static void belowNumber() {
        // Seed 1 draws 16838, 5758, 10113, 17515: of a hundred 38, and 58 next; 15 behind REACH and LEVEL.
        int[] numbers = {0, 37, 38, 39, 40, 100};
        int[] first = {0, 0, 0, 1, 1, 1};
        int[] second = {0, 0, 0, 2, 2, 2};
        for (int i = 0; i < numbers.length; i++) {
            TideKeep keep = Checks.on("beach 1 1;", "tide 0 9 1 " + numbers[i] + ";");
            keep.pass(1);
            Checks.due("WAVES of " + numbers[i] + " of a hundred", keep.sum(6), first[i]);
            keep.pass(1);
            Checks.due("WAVES behind the second minute, " + numbers[i], keep.sum(6), second[i]);
        }
        TideKeep next = Checks.on("beach 1 1;", "tide 1 9 1 58;");
        next.pass(1);
        Checks.sea(next, "tide 0 9 1 38;");
        next.pass(1);
        Checks.sea(next, "tide 0 9 1 58;");
        next.pass(1);
        Checks.due("58 is not below 58", next.sum(6), 0);
        dueByOtherSeeds();
    }

    private static void dueByOtherSeeds() {
        for (int seed = 2; seed < 40; seed++) {
            dueFirstDraw(seed, (int) (Checks.step(seed) / 65536 % 100));
        }
    }

    private static void drawnReachAndLevel() {
        // Behind 38 of a hundred seed 1 draws 5758 for REACH and 10113 for LEVEL.
        dueWave("reach 2 4; level 5 9;", 2 + 5758 % 3, 5 + 10113 % 5);
        dueWave("reach 1 8; level 0 9;", 1 + 5758 % 8, 10113 % 10);
        dueWave("reach 3 3; level 4 5;", 3, 4 + 10113 % 2);
        dueWave("reach 1 2; level 7 7;", 1 + 5758 % 2, 7);
        dueWave("", 1 + 5758 % 3, 4 + 10113 % 5);
    }

    /** Sand of one height at a time: up to LEVEL the wave goes on through its REACH, above it stops at y 0. */
    private static void dueWave(String sea, int reach, int level) {
        for (int height = Math.max(0, level - 2); height <= level + 2; height++) {
            TideKeep keep = met("beach 1 8; sand " + height + ";" + FIRM, "tide 0 0 1 100; cut 0;" + sea);
            for (int y = 0; y < 8; y++) {
                boolean isWet = height > level ? y == 0 : y < reach;
                Checks.due("WET at y " + y + " of height " + height + ": " + sea, keep.cell(0, y, 1), isWet ? 16 : 8);
            }
        }
    }

    private static void reach() {
        for (int rows = 1; rows <= 8; rows++) {
            for (int reach = 1; reach <= 8; reach++) {
                TideKeep keep = met("beach 2 " + rows + "; sand 2;" + FIRM, "wave 0 " + reach + " 2;");
                for (int y = 0; y < rows; y++) {
                    int want = y < reach ? 16 : 8;
                    Checks.due("REACH " + reach + ", WET at y " + y, keep.cell(0, y, 1), want);
                    Checks.due("REACH " + reach + ", WET at y " + y, keep.cell(1, y, 1), want);
                }
            }
        }
        TideKeep wide = met("beach 8 2; sand 2;" + FIRM, "wave 0 1 2;");
        for (int x = 0; x < 8; x++) {
            Checks.due("each column", wide.cell(x, 0, 1) * 100 + wide.cell(x, 1, 1), 1608);
        }
        TideKeep uneven = met("beach 3 2; sand 2; heap 1 1 0; stone 2 0;" + FIRM, "wave 0 2 2; cut 1;");
        Checks.dueHeights(uneven, " 2 2 2 2 2 2");
        int[] wet = {16, 16, 8, 16, 8, 16};
        for (int c = 0; c < 6; c++) {
            Checks.due("each column for itself, WET of " + c, uneven.cell(c % 3, c / 3, 1), wet[c]);
        }
    }

    private static void stones() {
        dueWets("beach 1 4; sand 2; stone 0 0;", "wave 0 8 9;", new int[] {8, 16, 8, 8});
        dueWets("beach 1 4; sand 2; stone 0 1;", "wave 0 8 9;", new int[] {16, 8, 16, 8});
        dueWets("beach 1 4; sand 2; stone 0 3;", "wave 0 8 9;", new int[] {16, 16, 16, 8});
        dueWets("beach 1 4; sand 2; stone 0 1;", "wave 0 2 9;", new int[] {16, 8, 16, 8});
        dueWets("beach 1 4; sand 2; stone 0 1;", "wave 0 1 9;", new int[] {16, 8, 8, 8});
        dueWets("beach 1 4; sand 2; stone 0 1; stone 0 2;", "wave 0 8 9;", new int[] {16, 8, 16, 8});
        dueWets("beach 1 4; sand 9; stone 0 0;", "wave 0 8 1;", new int[] {8, 16, 8, 8});
        dueWets("beach 1 1; sand 9; stone 0 0;", "wave 0 8 1;", new int[] {8});
        TideKeep high = met("beach 1 2; sand 9; stone 0 0;" + FIRM, "wave 0 2 1; cut 9;");
        Checks.dueHeights(high, " 9 9");
        Checks.due("nothing is cut at or behind a stone", high.sum(1), 0);
        TideKeep end = met("beach 2 2; sand 1; stone 0 1; stone 1 1;" + FIRM, "wave 0 8 9;");
        Checks.due("behind the last row there is none", end.cell(0, 1, 1) * 100 + end.cell(1, 1, 1), 808);
        TideKeep corner = met("beach 8 8; sand 1; stone 0 7; stone 7 7; stone 3 7;" + FIRM, "wave 0 8 9;");
        Checks.due("behind the last of all there is none", corner.cell(0, 7, 1) + corner.cell(3, 7, 1) + corner.cell(7,
            7, 1), 24);
        TideKeep wall = Checks.on("beach 1 2; sand 1;" + FIRM, "wave 0 2 9;");
        Checks.plan(wall, "hand wall 0 0;");
        wall.work(0);
        wall.pass(1);
        Checks.due("at a wall of the same minute, too", wall.cell(0, 0, 1) * 100 + wall.cell(0, 1, 1), 816);
    }

    private static void dueWets(String beach, String sea, int[] want) {
        TideKeep keep = met(beach + FIRM, sea);
        for (int y = 0; y < want.length; y++) {
            Checks.due("WET at y " + y + " of " + beach + sea, keep.cell(0, y, 1), want[y]);
        }
    }

    private static void aboveLevel() {
        dueWets("beach 1 3; sand 4; heap 1 0 1;", "wave 0 3 4; cut 0;", new int[] {16, 16, 8});
        dueWets("beach 1 3; sand 4; heap 1 0 1;", "wave 0 3 5; cut 0;", new int[] {16, 16, 16});
        dueWets("beach 1 3; sand 1;", "wave 0 3 0; cut 0;", new int[] {16, 8, 8});
        dueWets("beach 1 3; sand 0;", "wave 0 3 0; cut 0;", new int[] {16, 16, 16});
        dueWets("beach 1 2; sand 40; heap 40 0 0; heap 19 0 0; stone 0 1;", "wave 0 1 98; cut 0;", new int[] {16, 8});
        Checks.dueHeights(met("beach 1 1; sand 5;" + FIRM, "wave 0 1 5;"), " 5");
        Checks.dueHeights(met("beach 1 1; sand 6;" + FIRM, "wave 0 1 5;"), " 5");
        Checks.dueHeights(met("beach 1 1; sand 40; heap 40 0 0; heap 19 0 0;" + FIRM, "wave 0 1 99;"), " 99");
        Checks.dueHeights(met("beach 1 1; sand 40; heap 40 0 0; heap 19 0 0;" + FIRM, "wave 0 1 98;"), " 98");
        Checks.dueHeights(met("beach 1 3; sand 3;" + FIRM, "wave 0 3 2;"), " 2 3 3");
    }

    private static void carriedOff() {
        int[] cuts = {0, 1, 3, 4, 9};
        for (int cut : cuts) {
            TideKeep keep = met("beach 1 1; sand 3;" + FIRM, "wave 0 1 0; cut " + cut + ";");
            Checks.due("HEIGHT, cut " + cut, keep.cell(0, 0, 0), Math.max(0, 3 - cut));
            Checks.due("LOST, cut " + cut, keep.sum(1), Math.min(3, cut));
        }
        TideKeep untold = met("beach 3 1; sand 3;" + FIRM, "wave 0 1 0; wave 0 1 0;");
        Checks.dueHeights(untold, " 1 1 1");
        Checks.due("LOST in all columns, by two waves", untold.sum(1), 6);
        TideKeep all = met("beach 1 1; sand 3;" + FIRM, "wave 0 1 0; wave 0 1 0; cut 2;");
        Checks.dueHeights(all, " 0");
        Checks.due("LOST", all.sum(1), 3);
        all.pass(5);
        Checks.due("LOST later", all.sum(1), 3);
    }

    private static void goesOn() {
        dueWets("beach 1 4; sand 1; heap 1 0 1; heap 2 0 3;", "wave 0 8 2; cut 0;", new int[] {16, 16, 16, 16});
        TideKeep keep = met("beach 1 3; sand 2; heap 1 0 2;" + FIRM, "wave 0 3 2; cut 2;");
        Checks.dueHeights(keep, " 2 2 1");
        Checks.due("LOST", keep.sum(1), 2);
        dueWets("beach 1 2; sand 0;", "wave 0 2 0;", new int[] {16, 16});
    }

    private static void modulo() {
        TideKeep keep = Checks.on("beach 1 1;", "tide 0 359 1 37;");
        keep.keep(0);
        for (int seed : new int[] {0, 1, 2, 12345, 65535, 65536, 1073741823, 1073741824, 2147483646, 2147483647}) {
            keep.take(0);
            keep.chance(seed);
            keep.pass(360);
            Checks.due("WAVES by seed " + seed, keep.sum(6), Checks.wavesBy(seed, 360, 37));
        }
        // 2147483647 becomes 1043980748, over 65536 that is 15929; 0 becomes 12345, over 65536 that is 0.
        dueFirstDraw(2147483647, 29);
        dueFirstDraw(0, 0);
    }

    /** What a seed draws first of a hundred. */
    private static void dueFirstDraw(int seed, int drawn) {
        TideKeep keep = Checks.on("beach 1 1;", "tide 0 0 1 " + drawn + ";");
        keep.chance(seed);
        keep.pass(1);
        Checks.due("not below " + drawn, keep.sum(6), 0);
        Checks.sea(keep, "tide 1 1 1 " + (drawn + 1) + ";");
        keep.chance(seed);
        keep.pass(1);
        Checks.due("below " + (drawn + 1), keep.sum(6), 1);
    }

    private static void drawn() {
        // The states behind 1: 1103527590, 377401575, 662824084; over 65536: 16838, 5758, 10113.
        dueFirstDraw(1, 38);
        dueFirstDraw(1103527590, 58);
        dueFirstDraw(377401575, 13);
        // One of a single number is drawn, too: behind a wave the fourth number is next, 17515.
        TideKeep keep = Checks.on("beach 1 1;", "tide 0 0 1 100; reach 1 1; level 9 9;");
        keep.pass(1);
        Checks.sea(keep, "tide 0 9 1 15;");
        keep.pass(1);
        Checks.due("15 is not below 15", keep.sum(6), 1);
        TideKeep other = Checks.on("beach 1 1;", "tide 0 0 1 100; reach 1 1; level 9 9;");
        other.pass(1);
        Checks.sea(other, "tide 0 9 1 16;");
        other.pass(1);
        Checks.due("15 is below 16", other.sum(6), 2);
    }

    private static void atFirst() {
        TideKeep keep = Checks.on("beach 1 1;", "tide 0 0 1 38;");
        keep.pass(1);
        Checks.due("the first draw is 38", keep.sum(6), 0);
        TideKeep other = Checks.on("beach 1 1;", "tide 0 0 1 39;");
        other.pass(1);
        Checks.due("below 39", other.sum(6), 1);
        TideKeep told = Checks.on("beach 1 1;", "tide 0 359 1 37;");
        told.pass(360);
        Checks.due("WAVES of a new object", told.sum(6), Checks.wavesBy(1, 360, 37));
    }

    private static void chance() {
        TideKeep keep = Checks.on("beach 1 1;", "tide 0 359 1 50;");
        Checks.due("the least seed", keep.chance(0), 1);
        Checks.due("the greatest seed", keep.chance(2147483647), 1);
        Checks.due("any seed", keep.chance(7), 1);
        Edges.refused("chance(-1)", keep.chance(-1));
        Edges.refused("chance(the least int)", keep.chance(Integer.MIN_VALUE));
        keep.pass(100);
        Checks.due("THE CHANCE of the last seed that was taken", keep.sum(6), Checks.wavesBy(7, 100, 50));
        Edges.changesNothing("chance() of no seed", other -> Edges.refused("chance(-5)", other.chance(-5)));
    }
}
