/** Edges of FAULTS, of fault() and of told(). */
final class FaultEdges {
    private FaultEdges() {
    }

    static void all() {
        Edges.edge("Terms I", "PLACE (a TOKEN's first byte; the text's length at its end)", FaultEdges::place);
        Edges.edge("Terms I", "the first come to as TOKENS are read one by one", FaultEdges::theFirst);
        Edges.edge("Terms I", "of one TOKEN the least KIND", FaultEdges::theLeastKind);
        Edges.edge("Terms I", "1 SYNTAX: a TOKEN (or byte that is none, a run that is too long) with which no text goes on",
            FaultEdges::syntax);
        Edges.edge("Terms I", "2 RANGE: an N out of its bounds", FaultEdges::range);
        Edges.edge("Terms I", "(also a heap with which there are more than 59 units by heaps: at its y)",
            FaultEdges::heaps);
        Edges.edge("Terms I", "3 TWICE: beach, sand, pack, dry, damp, fall, tire, hump, tide, reach, level, cut again",
            FaultEdges::again);
        Edges.edge("Terms I", "a stone at a CELL with a stone, a flag at one with a flag (at its y)",
            FaultEdges::samePlace);
        Edges.edge("Terms I", "the y of a dig to the CELL from which it is", FaultEdges::digToItself);
        Edges.edge("Terms I", "4 ROOM: a FLAG, wave, hand too many, at its first WORD", FaultEdges::room);
        Edges.edge("Terms I", "the ninth ACT of a hand, at its WORD", FaultEdges::ninthAct);
        Edges.edge("Terms I", "5 LATE: beach behind a heap, stone or flag", FaultEdges::late);
        Edges.edge("Promise 7", "Of the latest beach(), sea() or plan() that was not FULL", FaultEdges::theLatest);
        Edges.edge("Promise 7", "what 0: its FAULT's KIND, 0 without (and ahead of any), 1: its PLACE (NONE)",
            FaultEdges::without);
        Edges.edge("Promise 7", "NONE for another what", FaultEdges::anotherWhat);
        Edges.edge("Promise 8", "What 0: columns, 1: rows, 2: sand, 3: pack, 4: dry, 5: damp, 6: fall, 7: tire, 8: best,"
            + " 9: top, 10: loss, 11: FLAGS, 12: waves, 13 .. 16: the tide's four numbers", FaultEdges::told);
        Edges.edge("Promise 8", "13 .. 16: the tide's four numbers (NONE: untold)", FaultEdges::toldTide);
        Edges.edge("Promise 8", "17, 18: reach, 19, 20: level, 21: cut", FaultEdges::toldSea);
        Edges.edge("Promise 8", "22: PLANS, 23: the PLAN that holds (NONE)", FaultEdges::toldPlans);
        Edges.edge("Promise 8", "NONE for others", FaultEdges::toldOthers);
    }

    private static void place() {
        Edges.beachFault("sandy 5;", 1, 0);
        Edges.beachFault("  sandy 5;", 1, 2);
        Edges.beachFault("sand 41;", 2, 5);
        Edges.beachFault("sand \n 041;", 2, 7);
        Edges.beachFault("sand 5 ?", 1, 7);
        Edges.beachFault("sand 5", 1, 6);
        Edges.beachFault("sand 5 ", 1, 7);
        Edges.beachFault("sand 5 \n\n", 1, 9);
        Edges.beachFault("sand", 1, 4);
        Edges.seaFault("wave 1 1 1;wave 1", 1, 17);
        Edges.planFault("hand", 1, 4);
        Edges.planFault("hand  ", 1, 6);
        TideKeep keep = new TideKeep();
        Checks.put(keep, "sand 5;");
        keep.end(6);
        keep.beach();
        Edges.dueFault(keep, "sand 5, cut off", 1, 6);
    }

    private static void theFirst() {
        Edges.beachFault("flag 0 0;beach 9 9; x", 5, 9);
        Edges.beachFault("heap 41 9 9;", 2, 5);
        Edges.beachFault("heap 1 9 9;", 2, 7);
        Edges.beachFault("sand 41 x", 2, 5);
        Edges.beachFault("sand 1;sand x", 3, 7);
        Edges.beachFault("stone 0 0;stone 0 0 x", 3, 18);
        Edges.seaFault("cut 10;x", 2, 4);
        Edges.seaFault("wave 1 1 1;".repeat(12) + "wave x", 4, 132);
        Edges.seaFault("tide 5 4 0 101;", 2, 7);
        Edges.planFault("hand dig 0 0 0 0 x", 3, 15);
        Edges.planFault("hand rest;".repeat(4) + "hand x", 4, 40);
        Edges.planFault("hand dig 9 9 9 9;", 2, 9);
        Edges.beachFault("x", 1, 0);
        Edges.beachFault("sand 1;x;sand 99;sand 1;", 1, 7);
    }

    private static void theLeastKind() {
        Edges.beachFault("beach 2 2;flag 0 0;beach 2 2;", 3, 19);
        Edges.beachFault("beach 2 2;heap 1 0 0;beach 2 2;", 3, 21);
        Edges.planFault("hand" + " rest".repeat(8) + " hand;", 1, 45);
        Edges.planFault("hand" + " rest".repeat(8) + " x", 1, 45);
        Edges.planFault("hand" + " rest".repeat(8) + " 1;", 1, 45);
        Edges.planFault("hand" + " rest".repeat(8), 1, 44);
        Edges.seaFault("wave 1 1 1;".repeat(12) + "waves 1 1 1;", 1, 132);
        Edges.beachFault("sand 0041;", 1, 5);
        Edges.beachFault("sand 1;sand1;sandsandsand", 3, 7);
    }

    private static void syntax() {
        Edges.beachFault("x 1;", 1, 0);
        Edges.beachFault("sand ;", 1, 5);
        Edges.beachFault("sand sand", 1, 5);
        Edges.beachFault("sand 5 5;", 1, 7);
        Edges.beachFault("5 sand;", 1, 0);
        Edges.beachFault(";", 1, 0);
        Edges.beachFault("sand #5;", 1, 5);
        Edges.beachFault("sand 5;\u0000", 1, 7);
        Edges.beachFault("\u00ff", 1, 0);
        Edges.beachFault("sand\u008a5;", 1, 4);
        Edges.beachFault("sand 0005;", 1, 5);
        Edges.beachFault("stonestone 1 1;", 1, 0);
        Edges.seaFault("wave 1 1;", 1, 8);
        Edges.seaFault("cut 3;%", 1, 6);
        Edges.planFault("hand rest 1;", 1, 10);
        Edges.planFault("hand dig 0 0 0;", 1, 14);
        Edges.planFault("hand rest;#", 1, 10);
    }

    private static void range() {
        Edges.beachFault("beach 0 5;", 2, 6);
        Edges.beachFault("beach 5 9;", 2, 8);
        Edges.beachFault("sand 41;", 2, 5);
        Edges.beachFault("sand 999", 2, 5);
        Edges.beachFault("dry 0;", 2, 4);
        Edges.beachFault("hump 16 1 1;", 2, 5);
        Edges.beachFault("hump 1 21 1;", 2, 7);
        Edges.beachFault("hump 1 1 10;", 2, 9);
        Edges.beachFault("heap 1 5 0;", 2, 7);
        Edges.beachFault("heap 1 0 5;", 2, 9);
        Edges.seaFault("wave 360 1 1;", 2, 5);
        Edges.seaFault("level 9 8;", 2, 8);
        Edges.planFault("hand wet 5 0;", 2, 9);
        Edges.planFault("hand dig 0 0 0 5;", 2, 15);
    }

    private static void heaps() {
        Edges.beachTaken("heap 20 3 4;heap 39 3 4;", 2);
        Edges.beachFault("heap 20 3 4;heap 40 3 4;", 2, 22);
        Edges.beachFault("heap 20 3 4;heap 40 3 4", 2, 22);
        Edges.beachFault("heap 20 3 4;heap 40  3\n4 x", 2, 23);
        Edges.beachFault("heap 20 3 4;heap 39 3 4;heap 1 3 4;", 2, 33);
        Edges.beachFault("heap 20 3 4;heap 40 3 5;", 2, 22);
    }

    private static void again() {
        String[] ofBeach = {"beach 2 2;", "sand 1;", "pack 1;", "dry 1;", "damp 1;", "fall 1;", "tire 1;",
            "hump 1 1 1;"};
        for (String clause : ofBeach) {
            Edges.beachFault(clause + clause, 3, clause.length());
            Edges.beachFault(clause + "heap 1 0 0;" + clause, 3, clause.length() + 11);
            Edges.beachFault(clause + clause.substring(0, clause.indexOf(' ')), 3, clause.length());
        }
        String[] ofSea = {"tide 1 1 1 1;", "reach 1 1;", "level 1 1;", "cut 1;"};
        for (String clause : ofSea) {
            Edges.seaFault(clause + clause, 3, clause.length());
            Edges.seaFault(clause + "wave 1 1 1;" + clause, 3, clause.length() + 11);
            Edges.seaFault(clause + clause.substring(0, clause.indexOf(' ')), 3, clause.length());
        }
        Edges.beachTaken("heap 1 0 0;heap 1 0 0;stone 0 0;stone 1 0;flag 0 0;flag 1 0;", 6);
        Edges.seaTaken("wave 1 1 1;wave 1 1 1;", 2);
        TideKeep keep = Checks.on("beach 2 2;sand 1;pack 1;dry 1;damp 1;fall 1;tire 1;hump 1 1 1;", "cut 1;");
        Checks.due("another text may tell it once more", Checks.beach(keep,
            "beach 2 2;sand 1;pack 1;dry 1;damp 1;fall 1;tire 1;hump 1 1 1;"), 8);
        Checks.due("another text may tell it once more", Checks.sea(keep, "cut 1;"), 1);
    }

    private static void samePlace() {
        Edges.beachFault("stone 1 2;stone 1 2;", 3, 18);
        Edges.beachFault("flag 1 2;flag 1 2;", 3, 16);
        Edges.beachFault("stone 0 0;stone 0  0 x", 3, 19);
        Edges.beachFault("flag 0 0;flag 4 4;flag 0 0", 3, 25);
        Edges.beachFault("flag 0 0;flag 4 4;flag 4 4", 3, 25);
        Edges.beachTaken("stone 1 2;stone 2 1;flag 1 2;flag 2 1;", 4);
        Edges.beachTaken("stone 1 2;flag 1 2;heap 1 1 2;", 3);
        Edges.beachTaken("flag 1 2;heap 1 1 2;stone 1 2;", 3);
        Edges.beachTaken("stone 1 0;stone 0 1;stone 1 1;stone 0 0;", 4);
    }

    private static void digToItself() {
        Edges.planFault("hand dig 3 2 3 2;", 3, 15);
        Edges.planFault("hand dig 3 2 3 2", 3, 15);
        Edges.planFault("hand dig 3 2 3  2 x", 3, 16);
        Edges.planTaken("hand dig 3 2 2 3;");
        Edges.planTaken("hand dig 3 2 3 3;");
        Edges.planTaken("hand dig 3 2 2 2;");
    }

    private static void room() {
        Edges.beachFault("flag 0 0;flag 1 0;flag 2 0; flag 3 0;", 4, 28);
        Edges.beachFault("flag 0 0;flag 1 0;flag 2 0; flag 0 0;", 4, 28);
        Edges.beachFault("flag 0 0;flag 1 0;flag 2 0; flag", 4, 28);
        Edges.seaFault("wave 1 1 1;".repeat(12) + " wave 1 1 1;", 4, 133);
        Edges.seaFault("wave 1 1 1;".repeat(12) + "wave", 4, 132);
        Edges.planFault("hand rest;".repeat(4) + " hand rest;", 4, 41);
        Edges.planFault("hand rest;".repeat(4) + "hand", 4, 40);
        Edges.beachTaken("flag 0 0;flag 1 0;flag 2 0;", 3);
        Edges.seaTaken("wave 1 1 1;".repeat(12), 12);
        Edges.planTaken("hand rest;".repeat(4));
    }

    private static void ninthAct() {
        String eight = "hand" + " rest".repeat(8);
        Edges.planFault(eight + "  rest;", 4, 46);
        for (String word : new String[] {"dig", "pack", "wet", "wall", "rest"}) {
            Edges.planFault(eight + " " + word, 4, 45);
            Edges.planFault(eight + " " + word + " 9 9 9 9;", 4, 45);
        }
        Edges.planTaken(eight + ";" + eight + ";");
    }

    private static void late() {
        Edges.beachFault("heap 1 0 0; beach 2 2;", 5, 12);
        Edges.beachFault("stone 0 0; beach 2 2;", 5, 11);
        Edges.beachFault("flag 0 0; beach 2 2;", 5, 10);
        Edges.beachFault("flag 0 0; beach", 5, 10);
        Edges.beachFault("flag 0 0; dry 1; sand 1; beach 2 2;", 5, 25);
        Edges.beachTaken("dry 1; sand 1; beach 2 2; flag 0 0;", 4);
        TideKeep keep = Checks.on("flag 0 0;", "");
        Checks.due("another text begins anew", Checks.beach(keep, "beach 2 2;"), 1);
    }

    private static void theLatest() {
        TideKeep keep = new TideKeep();
        Checks.beach(keep, "sand 41;");
        Edges.dueFault(keep, "the beach's", 2, 5);
        Checks.sea(keep, "cut 1;cut 1;");
        Edges.dueFault(keep, "the sea's", 3, 6);
        Checks.plan(keep, "hand");
        Edges.dueFault(keep, "the plan's", 1, 4);
        Checks.plan(keep, "hand rest;");
        Edges.dueFault(keep, "a plan without", 0, TideKeep.NONE);
        Checks.beach(keep, "flag 0 0;beach 2 2;");
        Edges.dueFault(keep, "the beach's", 5, 9);
        Checks.which(keep, "x");
        Edges.dueFault(keep, "which() has none", 5, 9);
        Checks.sea(keep, "");
        Edges.dueFault(keep, "a sea without", 0, TideKeep.NONE);
        Checks.plan(keep, "hand rest;");
        Checks.plan(keep, "hand rest;");
        Checks.beach(keep, "x");
        Checks.due("a plan that is FULL", Checks.plan(keep, "hand"), TideKeep.FULL);
        Edges.dueFault(keep, "the one before that", 1, 0);
        keep.pass(-1);
        keep.take(0);
        Edges.dueFault(keep, "no other call has one", 1, 0);
    }

    private static void without() {
        TideKeep keep = new TideKeep();
        Edges.dueFault(keep, "ahead of any", 0, TideKeep.NONE);
        Checks.due("a beach with", Checks.beach(keep, "x"), TideKeep.NONE);
        Edges.dueFault(keep, "with one", 1, 0);
        Checks.due("a beach without", Checks.beach(keep, "sand 1;"), 1);
        Edges.dueFault(keep, "without", 0, TideKeep.NONE);
        Checks.due("a sea with", Checks.sea(keep, "cut 77;"), TideKeep.NONE);
        Checks.due("a sea without", Checks.sea(keep, "cut 7;"), 1);
        Edges.dueFault(keep, "without", 0, TideKeep.NONE);
        Checks.due("a plan with", Checks.plan(keep, "x"), TideKeep.NONE);
        Checks.due("a plan without", Checks.plan(keep, ""), 0);
        Edges.dueFault(keep, "without", 0, TideKeep.NONE);
    }

    private static void anotherWhat() {
        TideKeep keep = new TideKeep();
        for (int round = 0; round < 2; round++) {
            for (int what : new int[] {-1, 2, 3, Integer.MIN_VALUE, Integer.MAX_VALUE}) {
                Checks.due("fault(" + what + ")", keep.fault(what), TideKeep.NONE);
            }
            Checks.beach(keep, "sand 41;");
        }
    }

    private static void told() {
        TideKeep keep = Checks.on("beach 7 6; sand 31; pack 3; dry 24; damp 15; fall 8; tire 9; hump 10 11 2;"
            + " flag 0 0; flag 1 1;", "wave 0 1 1; wave 0 1 1; wave 0 1 1; tide 12 13 14 18; reach 4 5; level 16 17; cut 9;");
        int[] told = {7, 6, 31, 3, 24, 15, 8, 9, 10, 11, 2, 2, 3, 12, 13, 14, 18, 4, 5, 16, 17, 9, 0, TideKeep.NONE};
        for (int what = 0; what < told.length; what++) {
            Checks.due("told(" + what + ")", keep.told(what), told[what]);
        }
    }

    private static void toldTide() {
        TideKeep keep = new TideKeep();
        int[][] seas = {{-1, -1, -1, -1}, {0, 0, 1, 0}, {359, 359, 60, 100}, {-1, -1, -1, -1}};
        String[] texts = {"cut 1;", "tide 0 0 1 0;", "tide 359 359 60 100;", ""};
        for (int i = 0; i < texts.length; i++) {
            Checks.due("sea()", Checks.sea(keep, texts[i]) < 0 ? 0 : 1, 1);
            for (int what = 13; what <= 16; what++) {
                Checks.due("told(" + what + ") of " + texts[i], keep.told(what), seas[i][what - 13]);
            }
        }
    }

    private static void toldSea() {
        TideKeep keep = new TideKeep();
        int[][] seas = {{1, 1, 0, 0, 0}, {8, 8, 99, 99, 9}, {1, 8, 0, 99, 5}, {1, 3, 4, 8, 1}};
        String[] texts = {"reach 1 1; level 0 0; cut 0;", "reach 8 8; level 99 99; cut 9;",
            "reach 1 8; level 0 99; cut 5;", ""};
        for (int i = 0; i < texts.length; i++) {
            Checks.due("sea()", Checks.sea(keep, texts[i]) < 0 ? 0 : 1, 1);
            for (int what = 17; what <= 21; what++) {
                Checks.due("told(" + what + ") of " + texts[i], keep.told(what), seas[i][what - 17]);
            }
        }
    }

    private static void toldPlans() {
        TideKeep keep = new TideKeep();
        Checks.due("PLANS", keep.told(22), 0);
        Checks.due("none holds", keep.told(23), TideKeep.NONE);
        Checks.plan(keep, "hand rest;");
        Checks.plan(keep, "hand rest;");
        Checks.due("PLANS", keep.told(22), 2);
        Checks.due("none holds yet", keep.told(23), TideKeep.NONE);
        keep.work(0);
        Checks.due("the first holds", keep.told(23), 0);
        keep.work(1);
        Checks.due("the second holds", keep.told(23), 1);
        Checks.plan(keep, "hand rest;");
        Checks.due("PLANS", keep.told(22), 3);
        Checks.due("the second still holds", keep.told(23), 1);
        keep.work(TideKeep.NONE);
        Checks.due("none holds", keep.told(23), TideKeep.NONE);
    }

    private static void toldOthers() {
        TideKeep keep = new TideKeep();
        for (int what : new int[] {-1, -2, 24, 25, 99, Integer.MIN_VALUE, Integer.MAX_VALUE}) {
            Checks.due("told(" + what + ")", keep.told(what), TideKeep.NONE);
        }
    }
}
