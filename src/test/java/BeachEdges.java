/** Edges of a BEACH's text, and of beach(). */
final class BeachEdges {
    private static final String CLAUSE = "clause = \"beach\" N N | (\"sand\" | \"pack\" | \"dry\" | \"damp\" | \"fall\" | \"tire\") N"
        + " | \"hump\" N N N | (\"heap\" N | \"stone\" | \"flag\") N N.";

    private BeachEdges() {
    }

    static void all() {
        texts();
        things();
        Edges.edge("Promise 1", "A BEACH and a SEA of which nothing is told; no PLANS", BeachEdges::newObject);
        Edges.edge("Promise 4", "THE TAPE is a BEACH: how many clauses", BeachEdges::howMany);
        Edges.edge("Promise 4", "THE TAPE is a BEACH", BeachEdges::nothingOfBefore);
        Edges.edge("Promise 4", "NONE with a FAULT (it stays, all else, too)", BeachEdges::faultLeavesAll);
        Edges.edge("Promise 4", "Without one minute 0", BeachEdges::minuteZero);
        Edges.edge("Promise 4", "all FLAGS up", BeachEdges::flagsUp);
        Edges.edge("Promise 4", "nothing LOST, slid, no WAVES came", BeachEdges::sumsAreNone);
        Edges.edge("Promise 4", "PLANS are none, none holds", BeachEdges::plansAreNone);
        Edges.edge("Promise 4", "SLOTS are empty", BeachEdges::slotsAreEmpty);
        Edges.edge("Promise 4", "(SEA, THE CHANCE, TRIED stay.)", BeachEdges::whatStays);
    }

    private static void texts() {
        Edges.edge("Terms I", "A BEACH is a text = {clause \";\"}", BeachEdges::text);
        Edges.edge("Terms I", CLAUSE, BeachEdges::clauses);
        Edges.edge("Terms I", "beach: columns 1 .. 8, rows 1 .. 8 (5, 5)", BeachEdges::columnsAndRows);
        Edges.edge("Terms I", "ahead of all heaps, stones and flags", BeachEdges::ahead);
        Edges.edge("Terms I", "Bounds (and what isn't told): sand 0 .. 40 (6)", () -> bounds("sand", 2, 0, 40, 6));
        Edges.edge("Terms I", "pack 0 .. 5 (2)", () -> bounds("pack", 3, 0, 5, 2));
        Edges.edge("Terms I", "dry 1 .. 60 (10)", () -> bounds("dry", 4, 1, 60, 10));
        Edges.edge("Terms I", "damp 0 .. 16 (4)", () -> bounds("damp", 5, 0, 16, 4));
        Edges.edge("Terms I", "fall 0 .. 20 (1)", () -> bounds("fall", 6, 0, 20, 1));
        Edges.edge("Terms I", "tire 0 .. 20 (0)", () -> bounds("tire", 7, 0, 20, 0));
        Edges.edge("Terms I", "hump: best 1 .. 15, top 0 .. 20, loss 0 .. 9 (4, 6, 1)", BeachEdges::hump);
    }

    private static void things() {
        Edges.edge("Terms I", "heap: 1 .. 40 units", BeachEdges::heapUnits);
        Edges.edge("Terms I", "more than the sand everywhere", BeachEdges::heapAboveSand);
        Edges.edge("Terms I", "at a CELL (x, y; as often as one likes, 59 units by heaps there at most)",
            BeachEdges::mostByHeaps);
        Edges.edge("Terms I", "stone, flag: at a CELL, x and y from 0", BeachEdges::cellsFromZero);
        Edges.edge("Terms I", "at most 3 FLAGS, numbered from 0 as they come", BeachEdges::threeFlags);
    }

    private static void text() {
        Edges.beachTaken("", 0);
        Edges.beachTaken("sand 1;", 1);
        Edges.beachTaken("sand 1;pack 1;dry 1;damp 1;fall 1;tire 1;hump 1 1 1;beach 1 1;", 8);
        Edges.beachFault("sand 1", 1, 6);
        Edges.beachFault("sand 1;pack 1", 1, 13);
        Edges.beachFault("sand 1 pack 1;", 1, 7);
        Edges.beachFault(";", 1, 0);
        Edges.beachFault("sand 1;;", 1, 7);
        Edges.beachFault(";sand 1;", 1, 0);
        Edges.beachFault("1;", 1, 0);
        Edges.beachFault("sand;", 1, 4);
        Edges.beachFault("sand sand 1;", 1, 5);
        Edges.beachFault("wave 1 1 1;", 1, 0);
        Edges.beachFault("hand rest;", 1, 0);
    }

    /** Each clause with as many numbers as it has, with one too few and with one too many. */
    private static void clauses() {
        String[] words = {"beach", "sand", "pack", "dry", "damp", "fall", "tire", "hump", "heap", "stone", "flag"};
        int[] numbers = {2, 1, 1, 1, 1, 1, 1, 3, 3, 2, 2};
        for (int i = 0; i < words.length; i++) {
            String few = words[i] + " 1".repeat(numbers[i] - 1);
            Edges.beachTaken(few + " 1;", 1);
            Edges.beachFault(few + ";", 1, few.length());
            Edges.beachFault(few, 1, few.length());
            Edges.beachFault(few + " 1", 1, few.length() + 2);
            Edges.beachFault(few + " 1 1;", 1, few.length() + 3);
            Edges.beachFault(few + " sand;", 1, few.length() + 1);
        }
    }

    private static void columnsAndRows() {
        for (int columns = 1; columns <= 8; columns += 7) {
            for (int rows = 1; rows <= 8; rows += 7) {
                TideKeep keep = new TideKeep();
                Checks.due("beach()", Checks.beach(keep, "beach " + columns + " " + rows + ";"), 1);
                Checks.due("columns", keep.told(0), columns);
                Checks.due("rows", keep.told(1), rows);
                Edges.taken("the last cell", keep.cell(columns - 1, rows - 1, 0));
                Edges.refused("a column more", keep.cell(columns, rows - 1, 0));
                Edges.refused("a row more", keep.cell(columns - 1, rows, 0));
                Checks.due("all the sand", keep.sum(0), 6 * columns * rows);
            }
        }
        Edges.beachFault("beach 0 1;", 2, 6);
        Edges.beachFault("beach 9 1;", 2, 6);
        Edges.beachFault("beach 1 0;", 2, 8);
        Edges.beachFault("beach 1 9;", 2, 8);
        TideKeep keep = Checks.on("beach 3 2;", "");
        Checks.beach(keep, "sand 1;");
        Checks.due("columns untold", keep.told(0), 5);
        Checks.due("rows untold", keep.told(1), 5);
    }

    private static void ahead() {
        Edges.beachTaken("sand 1;pack 1;dry 1;damp 1;fall 1;tire 1;hump 1 1 1;beach 2 2;heap 1 0 0;", 9);
        Edges.beachTaken("beach 2 2;heap 1 0 0;stone 0 0;flag 0 0;", 4);
        Edges.beachFault("heap 1 0 0;beach 2 2;", 5, 11);
        Edges.beachFault("stone 0 0;beach 2 2;", 5, 10);
        Edges.beachFault("flag 0 0;beach 2 2;", 5, 9);
        Edges.beachFault("flag 0 0;sand 1;beach 2 2;", 5, 16);
        Edges.beachFault("flag 0 0;beach 9 9;", 5, 9);
    }

    /** A number told by one word alone: its least, its greatest, what is beside them, and what isn't told. */
    private static void bounds(String word, int what, int least, int greatest, int untold) {
        TideKeep keep = new TideKeep();
        Checks.due(word + " of a new object", keep.told(what), untold);
        for (int right : new int[] {least, greatest}) {
            Checks.due(word + " " + right, Checks.beach(keep, word + " " + right + ";"), 1);
            Checks.due(word + " told", keep.told(what), right);
        }
        Checks.due("a beach without " + word, Checks.beach(keep, ""), 0);
        Checks.due(word + " untold", keep.told(what), untold);
        Edges.beachFault(word + " " + (greatest + 1) + ";", 2, word.length() + 1);
        Edges.beachFault(word + " 999;", 2, word.length() + 1);
        if (least > 0) {
            Edges.beachFault(word + " " + (least - 1) + ";", 2, word.length() + 1);
        }
    }

    private static void hump() {
        TideKeep keep = new TideKeep();
        Checks.due("of a new object", keep.told(8) * 10000 + keep.told(9) * 100 + keep.told(10), 40601);
        Checks.due("the least", Checks.beach(keep, "hump 1 0 0;"), 1);
        Checks.due("told", keep.told(8) * 10000 + keep.told(9) * 100 + keep.told(10), 10000);
        Checks.due("the greatest", Checks.beach(keep, "hump 15 20 9;"), 1);
        Checks.due("told", keep.told(8) * 10000 + keep.told(9) * 100 + keep.told(10), 152009);
        Checks.due("a beach without", Checks.beach(keep, ""), 0);
        Checks.due("untold", keep.told(8) * 10000 + keep.told(9) * 100 + keep.told(10), 40601);
        Edges.beachFault("hump 0 0 0;", 2, 5);
        Edges.beachFault("hump 16 0 0;", 2, 5);
        Edges.beachFault("hump 1 21 0;", 2, 7);
        Edges.beachFault("hump 1 0 10;", 2, 9);
    }

    private static void heapUnits() {
        Edges.beachTaken("heap 1 0 0;", 1);
        Edges.beachTaken("heap 40 0 0;", 1);
        Edges.beachFault("heap 0 0 0;", 2, 5);
        Edges.beachFault("heap 41 0 0;", 2, 5);
    }

    private static void heapAboveSand() {
        TideKeep keep = Checks.on("beach 2 1; sand 0; heap 1 1 0;", "");
        Checks.dueHeights(keep, " 0 1");
        Checks.beach(keep, "beach 2 1; sand 40; heap 40 1 0;");
        Checks.dueHeights(keep, " 40 80");
        Checks.beach(keep, "beach 2 1; heap 5 0 0; sand 3;");
        Checks.dueHeights(keep, " 8 3");
        Checks.beach(keep, "beach 2 1; heap 5 0 0;");
        Checks.dueHeights(keep, " 11 6");
    }

    private static void mostByHeaps() {
        String one = "heap1 1 2;";
        Edges.beachTaken(one.repeat(59), 59);
        Edges.beachFault(one.repeat(60), 2, 598);
        TideKeep keep = Checks.on("sand 40; heap 40 1 2; heap 19 1 2;", "");
        Checks.due("59 more than the sand", keep.cell(1, 2, 0), 99);
        Edges.beachFault("heap 40 1 2;heap 20 1 2;", 2, 22);
        Edges.beachFault("sand 0;heap 40 1 2;heap 20 1 2;", 2, 29);
        Checks.due("each cell has its own", Checks.beach(keep,
            "heap 40 1 2;heap 19 1 2;heap 40 2 1;heap 19 2 1;heap 40 0 0;heap 19 0 0;"), 6);
        Checks.due("HEIGHT", keep.cell(2, 1, 0), 65);
        Checks.due("each beach has its own", Checks.beach(keep, "heap 40 1 2;heap 19 1 2;"), 2);
        Edges.beachFault("heap 40 1 2;heap 40 0 0;heap 20 1 2;", 2, 34);
    }

    private static void cellsFromZero() {
        for (String word : new String[] {"stone", "flag", "heap 1"}) {
            int x = word.length() + 11;
            Edges.beachTaken("beach 3 2;" + word + " 0 0;", 2);
            Edges.beachTaken("beach 3 2;" + word + " 2 1;", 2);
            Edges.beachFault("beach 3 2;" + word + " 3 0;", 2, x);
            Edges.beachFault("beach 3 2;" + word + " 0 2;", 2, x + 2);
            Edges.beachFault("beach 3 2;" + word + " 1 2;", 2, x + 2);
            Edges.beachFault("beach 3 2;" + word + " 999 9;", 2, x);
            Edges.beachTaken(word + " 4 4;", 1);
            Edges.beachFault(word + " 5 4;", 2, word.length() + 1);
            Edges.beachFault(word + " 4 5;", 2, word.length() + 3);
            Edges.beachTaken("beach 8 8;" + word + " 7 7;", 2);
            Edges.beachTaken("beach 1 1;" + word + " 0 0;", 2);
            Edges.beachFault("beach 1 1;" + word + " 1 0;", 2, x);
        }
        TideKeep keep = Checks.on("beach 3 2; stone 2 0; flag 0 1; flag 2 1;", "");
        Checks.due("the stone", keep.cell(2, 0, 3), 1);
        Checks.due("no stone", keep.cell(0, 1, 3) + keep.cell(1, 0, 3) + keep.cell(2, 1, 3), 0);
        Checks.due("the flags' cells", keep.flag(0, 1) * 10 + keep.flag(1, 1), 35);
    }

    private static void threeFlags() {
        TideKeep keep = Checks.on("flag 4 4; stone 0 0; flag 0 0; flag 2 1;", "");
        Checks.due("FLAGS", keep.told(11), 3);
        int[] cells = {24, 0, 7};
        for (int k = 0; k < 3; k++) {
            Checks.due("the cell of flag " + k, keep.flag(k, 1), cells[k]);
        }
        Edges.refused("a fourth", keep.flag(3, 1));
        Edges.beachFault("flag 4 4;flag 0 0;flag 2 1;flag 3 3;", 4, 27);
        Checks.beach(keep, "");
        Checks.due("no FLAGS", keep.told(11), 0);
        Edges.refused("none", keep.flag(0, 1));
    }

    private static void newObject() {
        TideKeep keep = new TideKeep();
        int[] told = {5, 5, 6, 2, 10, 4, 1, 0, 4, 6, 1, 0, 0, -1, -1, -1, -1, 1, 3, 4, 8, 1, 0, -1};
        for (int what = 0; what < told.length; what++) {
            Checks.due("told(" + what + ")", keep.told(what), told[what]);
        }
        for (int what = 0; what <= 4; what++) {
            Checks.due("count(" + what + ")", keep.count(what), 0);
        }
        for (int c = 0; c < 25; c++) {
            Checks.due("HEIGHT of " + c, keep.cell(c % 5, c / 5, 0), 6);
            Checks.due("WET of " + c, keep.cell(c % 5, c / 5, 1), 4);
            Checks.due("PACK and STONE of " + c, keep.cell(c % 5, c / 5, 2) + keep.cell(c % 5, c / 5, 3), 0);
        }
        for (int what = 1; what <= 6; what++) {
            Checks.due("sum(" + what + ")", keep.sum(what), 0);
        }
        Edges.refused("a flag", keep.flag(0, 0));
        Edges.refused("a wave", keep.wave(0, 0));
        Edges.refused("a plan", keep.act(0, TideKeep.NONE, 0, 0));
        Edges.refused("a plan that holds", keep.work(0));
        for (int slot = 0; slot < 3; slot++) {
            Checks.due("take(" + slot + ")", keep.take(slot), TideKeep.STATE);
        }
        keep.pass(360);
        Checks.due("no wave comes", keep.sum(6), 0);
        Checks.due("nothing slides", keep.sum(3), 0);
    }

    private static void howMany() {
        TideKeep keep = new TideKeep();
        Checks.due("none", Checks.beach(keep, ""), 0);
        Checks.due("one", Checks.beach(keep, "sand 3;"), 1);
        Checks.due("three", Checks.beach(keep, "heap 3 0 0; heap 3 0 0; heap 3 1 1;"), 3);
        Checks.due("59 heaps and 31 elsewhere", Checks.beach(keep, "heap1 1 2;".repeat(59) + "heap1 0 0;".repeat(31)), 90);
        Checks.due("count(0)", keep.count(0), 90);
        Checks.due("none again", Checks.beach(keep, " "), 0);
        Checks.due("count(0)", keep.count(0), 0);
    }

    /** What one text tells is not there by the next one, whichever comes when. */
    private static void nothingOfBefore() {
        TideKeep keep = new TideKeep();
        for (int round = 0; round < 3; round++) {
            Checks.beach(keep, "beach 2 2; sand 1; heap 9 0 0; stone 1 1; flag 1 0; flag 0 0; dry 60; damp 5; pack 3; fall 0;");
            Checks.dueHeights(keep, " 10 1 1 1");
            Checks.due("the flags' cells", keep.flag(0, 1) * 10 + keep.flag(1, 1), 10);
            Checks.due("the stone", keep.cell(1, 1, 3), 1);
            Checks.plan(keep, "hand pack 0 1;hand wall 1 0;");
            keep.work(0);
            keep.pass(3);
            Checks.due("packed and walled", keep.cell(0, 1, 2) > 0 && keep.cell(1, 0, 3) == 1 ? 1 : 0, 1);
            for (int bare = 0; bare <= round; bare++) {
                Checks.beach(keep, "beach 2 2;");
                Checks.dueHeights(keep, " 6 6 6 6");
                Checks.due("no flags", keep.told(11), 0);
                for (int c = 0; c < 4; c++) {
                    Checks.due("WET of " + c, keep.cell(c % 2, c / 2, 1), 4);
                    Checks.due("PACK and STONE of " + c, keep.cell(c % 2, c / 2, 2) + keep.cell(c % 2, c / 2, 3), 0);
                }
                keep.pass(1);
                Checks.due("nothing slides", keep.sum(3), 0);
            }
            Checks.beach(keep, "beach 2 1; sand 0; heap 9 1 0; damp 0;");
            keep.pass(1);
            Checks.dueHeights(keep, " 4 5");
        }
    }

    private static void faultLeavesAll() {
        String[] faults = {"beach 2 2; sand 1; flag 0 0; stone 1 1; heap 3 0 0; hump 1 1 1; sand 2;", "x", "beach",
            "beach 3 3; fall 0; dry 1; damp 9; tire 9; pack 4; flag 1 1; flag 1 1;", "flag 0 0; beach 3 3;",
            "flag 0 0; flag 0 1; flag 0 2; flag 1 0;", "stone 0 0; stone 1 1; sand 41;", "sand 3"};
        for (String fault : faults) {
            Edges.changesNothing("beach() of " + fault,
                keep -> Checks.due("beach() of " + fault, Checks.beach(keep, fault), TideKeep.NONE));
        }
    }

    private static void minuteZero() {
        TideKeep keep = Edges.lived();
        Checks.due("the minute that comes", keep.sum(2), 7);
        Checks.beach(keep, "");
        Checks.due("the minute that comes", keep.sum(2), 0);
        Checks.due("pass(0)", keep.pass(0), 0);
        Checks.due("pass(1)", keep.pass(1), 1);
        TideKeep late = Checks.on("beach 1 1;", "wave 0 1 99;");
        late.pass(300);
        Checks.beach(late, "beach 1 1;");
        late.pass(1);
        Checks.due("the wave of minute 0 comes again", late.sum(6), 1);
    }

    private static void flagsUp() {
        TideKeep keep = Checks.on("beach 2 1; fall 0; flag 0 0; flag 1 0; hump 4 20 0;", "wave 2 1 0;");
        keep.pass(5);
        Checks.due("both fell", keep.flag(0, 0) + keep.flag(1, 0), 0);
        Checks.beach(keep, "beach 2 1; fall 0; flag 1 0; flag 0 0; sand 9; hump 4 20 0;");
        for (int k = 0; k < 2; k++) {
            Checks.due("flag " + k + " stands", keep.flag(k, 0), 1);
            Checks.due("flag " + k + " fell in no minute", keep.flag(k, 3), TideKeep.NONE);
            Checks.due("HEIGHT when it was put up", keep.flag(k, 2), 9);
        }
        keep.pass(3);
        Checks.due("they fall again", keep.flag(0, 3) + keep.flag(1, 3), 4);
    }

    private static void sumsAreNone() {
        TideKeep keep = Checks.on("beach 3 1; sand 3; heap 9 1 0; hump 4 0 0; pack 0;", "wave 0 1 0;");
        keep.pass(1);
        for (int what : new int[] {1, 3, 4, 5, 6}) {
            Checks.due("sum(" + what + ") behind a minute is above 0", keep.sum(what) > 0 ? 1 : 0, 1);
        }
        Checks.beach(keep, "beach 3 1; sand 2; heap 9 1 0;");
        for (int what : new int[] {1, 3, 4, 5, 6}) {
            Checks.due("sum(" + what + ") of a new beach", keep.sum(what), 0);
        }
        Checks.dueHeights(keep, " 2 11 2");
        for (int x = 0; x < 3; x++) {
            Checks.due("WET as it isn't told", keep.cell(x, 0, 1), 4);
        }
    }

    private static void plansAreNone() {
        TideKeep keep = Checks.on("beach 1 1; dry 60;", "");
        Checks.plan(keep, "hand wet 0 0;");
        Checks.plan(keep, "hand wet 0 0;");
        Checks.plan(keep, "hand wet 0 0;");
        keep.work(2);
        Checks.beach(keep, "beach 1 1; dry 60;");
        Checks.due("PLANS", keep.told(22), 0);
        Checks.due("the PLAN that holds", keep.told(23), TideKeep.NONE);
        Edges.refused("work(0)", keep.work(0));
        Edges.refused("act(0, ..)", keep.act(0, TideKeep.NONE, 0, 0));
        keep.pass(1);
        Checks.due("no hand wets", keep.cell(0, 0, 1), 4);
        Checks.due("the next plan is the first", Checks.plan(keep, "hand wet 0 0;"), 0);
        Checks.due("none holds yet", keep.told(23), TideKeep.NONE);
    }

    private static void slotsAreEmpty() {
        TideKeep keep = Checks.on("beach 1 1;", "");
        for (int slot = 0; slot < 3; slot++) {
            keep.keep(slot);
        }
        keep.pass(2);
        Checks.beach(keep, "beach 1 1;");
        for (int slot = 0; slot < 3; slot++) {
            Checks.due("take(" + slot + ")", keep.take(slot), TideKeep.STATE);
        }
    }

    private static void whatStays() {
        TideKeep keep = Checks.on("beach 1 1; damp 1; dry 60;",
            "wave 0 1 2; cut 0; tide 1 2 1 39; reach 2 2; level 3 4;");
        keep.trial(3, 5, 21, 1);
        keep.right(4, 0, 0);
        keep.right(4, 0, 1);
        keep.chance(1);
        keep.pass(1);
        Checks.beach(keep, "beach 1 1; damp 1; dry 60;");
        int[] sea = {1, 2, 1, 39, 2, 2, 3, 4, 0};
        for (int i = 0; i < sea.length; i++) {
            Checks.due("told(" + (13 + i) + ")", keep.told(13 + i), sea[i]);
        }
        Checks.due("the wave", keep.wave(0, 0) * 100 + keep.wave(0, 1) * 10 + keep.wave(0, 2), 12);
        Checks.due("clauses of the SEA", keep.count(1), 5);
        Checks.due("TRIED", keep.count(2), 1);
        Checks.due("puttings RIGHT", keep.count(3), 2);
        Checks.due("humps that FIT", keep.humps(999, 0), 5);
        Edges.refused("a STEP that falls", keep.trial(3, 5, 5, 1));
        dueChanceStays();
    }

    /** A hundred minutes of a tide on each of three beaches, one behind another. */
    private static void dueChanceStays() {
        TideKeep keep = Checks.on("", "tide 0 99 1 50;");
        long chance = 1;
        int together = 0;
        for (int round = 0; round < 3; round++) {
            Checks.beach(keep, "beach 1 1;");
            keep.pass(100);
            int came = 0;
            for (int minute = 0; minute < 100; minute++) {
                chance = Checks.step(chance);
                if (chance / 65536 % 100 < 50) {
                    came++;
                    chance = Checks.step(Checks.step(chance));
                }
            }
            Checks.due("WAVES of beach " + round, keep.sum(6), came);
            together += came;
        }
        Checks.due("they are not three times the same", together != 3 * Checks.wavesBy(1, 100, 50) ? 1 : 0, 1);
    }
}
