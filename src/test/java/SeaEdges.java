/** Edges of a SEA's text, of sea() and of wave(). */
final class SeaEdges {
    // Sand on which nothing slides, one column of it.
    private static final String COLUMN = "beach 1 8; sand 3; damp 1; dry 60; hump 1 20 0; pack 0;";

    private SeaEdges() {
    }

    static void all() {
        Edges.edge("Terms I", "A SEA is a text = {clause \";\"}", SeaEdges::text);
        Edges.edge("Terms I", "clause = \"wave\" N N N | \"tide\" N N N N | (\"reach\" | \"level\") N N | \"cut\" N.",
            SeaEdges::clauses);
        Edges.edge("Terms I", "wave: a minute 0 .. 359, REACH 1 .. 8, LEVEL 0 .. 99", SeaEdges::waveBounds);
        Edges.edge("Terms I", "at most 12, numbered from 0", SeaEdges::twelveWaves);
        Edges.edge("Terms I", "tide: from which minute 0 .. 359 to which (that one, too, not below the first)",
            SeaEdges::tideMinutes);
        Edges.edge("Terms I", "each how many 1 .. 60", SeaEdges::tideEach);
        Edges.edge("Terms I", "and how many of a hundred come 0 .. 100", SeaEdges::tideOfHundred);
        Edges.edge("Terms I", "(untold: none is drawn)", SeaEdges::noTide);
        Edges.edge("Terms I", "reach, level: the least and the greatest that is drawn (not below the least),"
            + " 1 .. 8 (1, 3), 0 .. 99 (4, 8)", SeaEdges::reachAndLevel);
        Edges.edge("Terms I", "cut: 0 .. 9 units (1)", SeaEdges::cut);
        Edges.edge("Promise 5", "THE TAPE is a SEA: how many clauses", SeaEdges::howMany);
        Edges.edge("Promise 5", "NONE with a FAULT (it stays)", SeaEdges::faultLeavesIt);
        Edges.edge("Promise 9", "A told wave, what 0: its minute, 1: REACH, 2: LEVEL; RANGE", SeaEdges::wave);
    }

    private static void text() {
        Edges.seaTaken("", 0);
        Edges.seaTaken("cut 1;", 1);
        Edges.seaTaken("level 1 1;reach 1 1;wave 1 1 1;cut 1;tide 1 1 1 1;wave 1 1 1;", 6);
        Edges.seaFault("cut 1", 1, 5);
        Edges.seaFault("cut 1;wave 1 1 1", 1, 16);
        Edges.seaFault("cut 1 wave 1 1 1;", 1, 6);
        Edges.seaFault(";", 1, 0);
        Edges.seaFault("cut 1;;", 1, 6);
        Edges.seaFault("1;", 1, 0);
        Edges.seaFault("sand 1;", 1, 0);
        Edges.seaFault("hand rest;", 1, 0);
        Edges.seaFault("cut cut 1;", 1, 4);
    }

    private static void clauses() {
        String[] words = {"wave", "tide", "reach", "level", "cut"};
        int[] numbers = {3, 4, 2, 2, 1};
        for (int i = 0; i < words.length; i++) {
            String few = words[i] + " 1".repeat(numbers[i] - 1);
            Edges.seaTaken(few + " 1;", 1);
            Edges.seaFault(few + ";", 1, few.length());
            Edges.seaFault(few, 1, few.length());
            Edges.seaFault(few + " 1", 1, few.length() + 2);
            Edges.seaFault(few + " 1 1;", 1, few.length() + 3);
            Edges.seaFault(few + " cut;", 1, few.length() + 1);
        }
    }

    private static void waveBounds() {
        Edges.seaTaken("wave 0 1 0;", 1);
        Edges.seaTaken("wave 359 8 99;", 1);
        Edges.seaFault("wave 360 1 0;", 2, 5);
        Edges.seaFault("wave 0 0 0;", 2, 7);
        Edges.seaFault("wave 0 9 0;", 2, 7);
        Edges.seaFault("wave 0 1 100;", 2, 9);
    }

    private static void twelveWaves() {
        StringBuilder twelve = new StringBuilder();
        for (int k = 0; k < 12; k++) {
            twelve.append("wave ").append(300 - k).append(' ').append(1 + k % 8).append(' ').append(k).append(";");
        }
        TideKeep keep = Checks.on("", twelve.toString());
        Checks.due("waves", keep.told(12), 12);
        for (int k = 0; k < 12; k++) {
            Checks.due("minute of " + k, keep.wave(k, 0), 300 - k);
            Checks.due("REACH of " + k, keep.wave(k, 1), 1 + k % 8);
            Checks.due("LEVEL of " + k, keep.wave(k, 2), k);
        }
        Edges.seaFault(twelve + "wave 1 1 1;", 4, twelve.length());
        Edges.seaFault(twelve + "cut 1;wave", 4, twelve.length() + 6);
        keep.pass(360);
        Checks.due("all come", keep.sum(6), 12);
    }

    /** In which of the first minutes a wave comes, as bits. */
    private static int minutesWithWaves(String sea, int minutes) {
        TideKeep keep = Checks.on("beach 1 1; damp 1;", sea);
        int bits = 0;
        int came = 0;
        for (int minute = 0; minute < minutes; minute++) {
            keep.pass(1);
            Checks.due("waves in minute " + minute, keep.sum(6) - came <= 1 ? 1 : 0, 1);
            bits |= keep.sum(6) - came << minute;
            came = keep.sum(6);
        }
        return bits;
    }

    private static void tideMinutes() {
        Edges.seaTaken("tide 0 0 1 1;", 1);
        Edges.seaTaken("tide 359 359 1 1;", 1);
        Edges.seaTaken("tide 0 359 1 1;", 1);
        Edges.seaFault("tide 360 360 1 1;", 2, 5);
        Edges.seaFault("tide 0 360 1 1;", 2, 7);
        Edges.seaFault("tide 5 4 1 1;", 2, 7);
        Edges.seaFault("tide 359 0 1 1;", 2, 9);
        Checks.due("that one, too", minutesWithWaves("tide 2 4 1 100;", 8), 0b00011100);
        Checks.due("one minute alone", minutesWithWaves("tide 3 3 1 100;", 8), 0b00001000);
        Checks.due("from minute 0", minutesWithWaves("tide 0 1 1 100;", 8), 0b00000011);
        TideKeep last = Checks.on("beach 1 1; damp 1;", "tide 358 359 1 100;");
        last.pass(358);
        Checks.due("not yet", last.sum(6), 0);
        last.pass(2);
        Checks.due("the last two minutes", last.sum(6), 2);
        last.pass(360);
        Checks.due("never again", last.sum(6), 2);
    }

    private static void tideEach() {
        Edges.seaTaken("tide 0 1 1 1;", 1);
        Edges.seaTaken("tide 0 1 60 1;", 1);
        Edges.seaFault("tide 0 1 0 1;", 2, 9);
        Edges.seaFault("tide 0 1 61 1;", 2, 9);
        Checks.due("each third", minutesWithWaves("tide 1 9 3 100;", 12), 0b000010010010);
        Checks.due("the last one is the tide's", minutesWithWaves("tide 1 10 3 100;", 12), 0b010010010010);
        TideKeep sixty = Checks.on("beach 1 1; damp 1;", "tide 0 359 60 100;");
        sixty.pass(360);
        Checks.due("each sixtieth", sixty.sum(6), 6);
    }

    private static void tideOfHundred() {
        Edges.seaTaken("tide 0 1 1 0;", 1);
        Edges.seaTaken("tide 0 1 1 100;", 1);
        Edges.seaFault("tide 0 1 1 101;", 2, 11);
        TideKeep none = Checks.on("beach 1 1; damp 1;", "tide 0 359 1 0;");
        none.pass(360);
        Checks.due("none of a hundred", none.sum(6), 0);
        TideKeep all = Checks.on("beach 1 1; damp 1;", "tide 0 359 1 100;");
        all.pass(360);
        Checks.due("a hundred of a hundred", all.sum(6), 360);
    }

    private static void noTide() {
        TideKeep keep = new TideKeep();
        for (int what = 13; what <= 16; what++) {
            Checks.due("told(" + what + ")", keep.told(what), TideKeep.NONE);
        }
        keep.pass(360);
        Checks.due("no wave", keep.sum(6), 0);
        // The first number of seed 1 is 38 of a hundred, the second one 58.
        Checks.beach(keep, "");
        Checks.sea(keep, "tide 0 0 1 39;");
        keep.pass(1);
        Checks.due("THE CHANCE stayed at its first number", keep.sum(6), 1);
        Checks.sea(keep, "reach 1 2;");
        for (int what = 13; what <= 16; what++) {
            Checks.due("told(" + what + ") behind a sea without a tide", keep.told(what), TideKeep.NONE);
        }
        Checks.beach(keep, "");
        keep.pass(9);
        Checks.due("no wave", keep.sum(6), 0);
    }

    private static void reachAndLevel() {
        TideKeep keep = new TideKeep();
        dueDrawn(keep, 1348);
        Checks.due("the least", Checks.sea(keep, "reach 1 1; level 0 0;"), 2);
        dueDrawn(keep, 1100);
        Checks.due("the greatest", Checks.sea(keep, "reach 8 8; level 9 9;"), 2);
        dueDrawn(keep, 8899);
        Checks.due("the whole", Checks.sea(keep, "level 0 99; reach 1 8;"), 2);
        Checks.due("level", keep.told(20), 99);
        Checks.due("99 and 99", Checks.sea(keep, "level 99 99;"), 1);
        Checks.due("level", keep.told(19), 99);
        Checks.due("untold again", Checks.sea(keep, ""), 0);
        dueDrawn(keep, 1348);
        Edges.seaFault("reach 0 1;", 2, 6);
        Edges.seaFault("reach 9 9;", 2, 6);
        Edges.seaFault("reach 1 9;", 2, 8);
        Edges.seaFault("reach 1 0;", 2, 8);
        Edges.seaFault("reach 8 7;", 2, 8);
        Edges.seaFault("level 100 100;", 2, 6);
        Edges.seaFault("level 0 100;", 2, 8);
        Edges.seaFault("level 1 0;", 2, 8);
        Edges.seaFault("level 99 98;", 2, 9);
        drawnReaches();
    }

    private static void dueDrawn(TideKeep keep, int digits) {
        int told = keep.told(17) * 1000 + keep.told(18) * 100 + keep.told(19) * 10 + keep.told(20);
        Checks.due("reach and level", told, digits);
    }

    /** By 50 seeds each REACH of 3 to 5 is drawn, and no other; a LEVEL of 2 stops at once, and one of 3 does not. */
    private static void drawnReaches() {
        TideKeep keep = Checks.on(COLUMN, "tide 0 0 1 100; reach 3 5; level 2 3; cut 0;");
        keep.keep(0);
        int reaches = 0;
        for (int seed = 1; seed <= 50; seed++) {
            keep.take(0);
            keep.chance(seed);
            keep.pass(1);
            int reach = 0;
            for (int y = 0; y < 6; y++) {
                reach += keep.cell(0, y, 1) == 16 ? 1 : 0;
            }
            reaches |= 1 << reach;
        }
        Checks.due("REACHES, 1 where it stops at once", reaches, 0b111010);
    }

    private static void cut() {
        TideKeep keep = new TideKeep();
        Checks.due("untold", keep.told(21), 1);
        for (int cut : new int[] {0, 9}) {
            Checks.due("cut " + cut, Checks.sea(keep, "cut " + cut + ";"), 1);
            Checks.due("told", keep.told(21), cut);
        }
        Checks.sea(keep, "");
        Checks.due("untold again", keep.told(21), 1);
        Edges.seaFault("cut 10;", 2, 4);
        Edges.seaFault("cut 999;", 2, 4);
    }

    private static void howMany() {
        TideKeep keep = new TideKeep();
        Checks.due("none", Checks.sea(keep, ""), 0);
        Checks.due("one", Checks.sea(keep, "cut 1;"), 1);
        Checks.due("twelve and four", Checks.sea(keep, "wave 1 1 1;".repeat(12) + "cut 1;tide 1 1 1 1;reach 1 1;level 1 1;"),
            16);
        Checks.due("count(1)", keep.count(1), 16);
        Checks.due("none again", Checks.sea(keep, " "), 0);
        Checks.due("count(1)", keep.count(1), 0);
        Checks.due("waves", keep.told(12), 0);
        for (int round = 0; round < 3; round++) {
            Checks.due("two", Checks.sea(keep, "wave 5 5 5; wave 6 6 6;"), 2);
            Checks.due("waves", keep.told(12), 2);
            Checks.due("what isn't told", keep.told(13) + keep.told(17) + keep.told(20) + keep.told(21),
                -1 + 1 + 8 + 1);
            Checks.due("four", Checks.sea(keep, "tide 1 2 3 4; reach 5 6; level 7 9; cut 9;"), 4);
            Checks.due("no waves", keep.told(12), 0);
            Edges.refused("no wave", keep.wave(0, 0));
        }
    }

    private static void faultLeavesIt() {
        String[] faults = {"wave 1 1 1; tide 1 2 3 4; reach 1 1; level 1 1; cut 5; cut 6;", "x", "wave", "cut 9",
            "wave 1 1 1;".repeat(13), "tide 9 8 1 1;", "level 3 2;", "wave 1 1 1; cut 10;"};
        for (String fault : faults) {
            Edges.changesNothing("sea() of " + fault,
                keep -> Checks.due("sea() of " + fault, Checks.sea(keep, fault), TideKeep.NONE));
        }
    }

    private static void wave() {
        TideKeep keep = Checks.on("", "wave 359 8 99; wave 0 1 0;");
        Checks.due("the first", keep.wave(0, 0) * 1000 + keep.wave(0, 1) * 100 + keep.wave(0, 2), 359899);
        Checks.due("the second", keep.wave(1, 0) * 1000 + keep.wave(1, 1) * 100 + keep.wave(1, 2), 100);
        Edges.bounds("wave", k -> keep.wave(k, 0), 0, 1);
        Edges.bounds("what", what -> keep.wave(1, what), 0, 2);
        Edges.refused("what of no wave", keep.wave(2, 3));
        Checks.sea(keep, "wave 5 5 5;");
        Edges.refused("a wave of the sea before", keep.wave(1, 0));
        Checks.sea(keep, "wave 6 6 6; wave 7 7 7; cut");
        Edges.refused("a wave of a sea with a fault", keep.wave(1, 0));
        Checks.due("the sea stays", keep.wave(0, 0), 5);
    }
}
