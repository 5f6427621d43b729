/** Edges of pass(), sum(), keep(), take() and count(); of the constants, and of how long an object is used. */
final class SlotEdges {
    private static final String FIRM = "hump 8 20 0; damp 8; dry 60; pack 0;";

    private SlotEdges() {
    }

    static void all() {
        Edges.edge("What it is", "An object is used for at most 512 calls after it has been made", SlotEdges::lastCall);
        Edges.edge("The constants", "`NONE = -1`", () -> Checks.due("NONE", TideKeep.NONE, -1));
        Edges.edge("The constants", "`RANGE = -2`", () -> Checks.due("RANGE", TideKeep.RANGE, -2));
        Edges.edge("The constants", "`FULL = -3`", () -> Checks.due("FULL", TideKeep.FULL, -3));
        Edges.edge("The constants", "`STATE = -4`", () -> Checks.due("STATE", TideKeep.STATE, -4));
        Edges.edge("Promise 13", "So many MINUTES pass (0 .. 360;", SlotEdges::minutes);
        Edges.edge("Promise 13", "beyond 359 they go on: 360, 361 ..)", SlotEdges::beyond);
        Edges.edge("Promise 13", "the minute that comes; RANGE", SlotEdges::wrongMinutes);
        Edges.edge("Promise 16", "What 0: HEIGHTS together, 1: LOST, 2: the minute that comes, 3: UNITS that slid in all",
            SlotEdges::sums);
        Edges.edge("Promise 16", "4: in the latest MINUTE (0), 5: ROUNDS in which some did, in it (0)",
            SlotEdges::latestMinute);
        Edges.edge("Promise 16", "6: WAVES that came in all", SlotEdges::wavesInAll);
        Edges.edge("Promise 16", "NONE for others", SlotEdges::otherSums);
        Edges.edge("Promise 17", "A SLOT (0 .. 2) keeps all that minutes change, the PLAN that holds, THE CHANCE:"
            + " the minute that comes", SlotEdges::keep);
        Edges.edge("Promise 17", "the minute that comes; RANGE", SlotEdges::wrongKeep);
        Edges.edge("Promise 18", "All that becomes as a SLOT keeps it: the minute that comes", SlotEdges::take);
        Edges.edge("Promise 18", "RANGE; STATE: it is empty", SlotEdges::wrongTake);
        Edges.edge("Promise 35", "What 0: clauses of the BEACH, 1: of the SEA, 2: TRIED, 3: puttings RIGHT,"
            + " 4: bytes of THE TAPE", SlotEdges::count);
        Edges.edge("Promise 35", "NONE for others", SlotEdges::otherCounts);
    }

    private static void lastCall() {
        TideKeep keep = new TideKeep();
        for (int call = 1; call <= 511; call++) {
            keep.pass(1);
        }
        Checks.due("the 512th call", keep.pass(1), 512);
        TideKeep kept = new TideKeep();
        kept.keep(0);
        for (int call = 2; call <= 511; call++) {
            kept.pass(360);
        }
        Checks.due("the 512th call", kept.sum(2), 510 * 360);
    }

    private static void minutes() {
        TideKeep keep = new TideKeep();
        Checks.due("pass(0)", keep.pass(0), 0);
        Checks.due("pass(1)", keep.pass(1), 1);
        Checks.due("pass(0) again", keep.pass(0), 1);
        Checks.due("pass(360)", keep.pass(360), 361);
        TideKeep nothing = Checks.on("beach 1 1; sand 3; flag 0 0; fall 0;", "wave 0 1 0; tide 0 359 1 100;");
        nothing.pass(0);
        Checks.due("in no minute no wave comes", nothing.sum(6), 0);
        Checks.due("nothing is lost", nothing.sum(1), 0);
        TideKeep once = Checks.on("beach 1 1; sand 9;" + FIRM, "tide 0 9 1 100; cut 1; level 0 0;");
        TideKeep twice = Checks.on("beach 1 1; sand 9;" + FIRM, "tide 0 9 1 100; cut 1; level 0 0;");
        once.pass(5);
        twice.pass(2);
        twice.pass(3);
        Checks.due("2 and 3 are 5", twice.cell(0, 0, 0), once.cell(0, 0, 0));
        Checks.dueHeights(once, " 4");
    }

    private static void beyond() {
        TideKeep keep = Checks.on("beach 1 2; sand 3; damp 16; dry 60;",
            "wave 0 1 9; wave 359 1 9; tide 300 359 1 100; reach 1 1;");
        Checks.due("pass(359)", keep.pass(359), 359);
        Checks.due("WAVES", keep.sum(6), 1 + 59);
        Checks.due("minute 359", keep.pass(1), 360);
        Checks.due("WAVES", keep.sum(6), 1 + 60 + 1);
        Checks.due("minute 360", keep.pass(1), 361);
        Checks.due("pass(360)", keep.pass(360), 721);
        Checks.due("no WAVES any more", keep.sum(6), 62);
        Checks.due("the sun goes on: it shone twelve times", keep.cell(0, 1, 1), 4);
        Checks.due("sum(2)", keep.sum(2), 721);
        for (int i = 1; i <= 400; i++) {
            keep.pass(360);
        }
        Checks.due("far on", keep.sum(2), 721 + 400 * 360);
    }

    private static void wrongMinutes() {
        TideKeep keep = new TideKeep();
        Edges.bounds("pass", keep::pass, 0, 360);
        Checks.due("minutes that passed", keep.sum(2), 360);
        Edges.changesNothing("pass() of no number of minutes", other -> {
            Edges.refused("pass(361)", other.pass(361));
            Edges.refused("pass(-1)", other.pass(-1));
        });
    }

    private static void sums() {
        TideKeep keep = Checks.on("beach 2 2; sand 3; heap 5 1 1; hump 8 0 0; damp 8; dry 60; pack 0;",
            "wave 0 1 2; cut 1;");
        int[] first = {17, 0, 0, 0, 0, 0, 0};
        for (int what = 0; what <= 6; what++) {
            Checks.due("sum(" + what + ")", keep.sum(what), first[what]);
        }
        // Behind the wave there are 2 2 3 8: however they slide, 15 are left and 2 are LOST.
        Checks.due("pass(1)", keep.pass(1), 1);
        Checks.due("HEIGHTS together", keep.sum(0), 15);
        Checks.due("LOST", keep.sum(1), 2);
        Checks.due("the minute that comes", keep.sum(2), 1);
        Checks.due("UNITS that slid", keep.sum(3) > 0 && keep.sum(3) == keep.sum(4) ? 1 : 0, 1);
        Checks.due("WAVES", keep.sum(6), 1);
        TideKeep bare = Checks.on("beach 8 8; sand 0;", "");
        Checks.due("no HEIGHTS", bare.sum(0), 0);
        TideKeep most = Checks.on("beach 8 8; sand 40; heap 40 7 7; heap 19 7 7;" + FIRM, "");
        Checks.due("HEIGHTS of 64 cells", most.sum(0), 64 * 40 + 59);
    }

    private static void latestMinute() {
        TideKeep keep = Checks.on("beach 3 1; sand 0; heap 5 1 0; hump 8 0 0; damp 8; dry 60; pack 0;", "");
        Checks.due("ahead of any minute", keep.sum(4) * 10 + keep.sum(5), 0);
        keep.pass(1);
        Checks.due("three units in three rounds", keep.sum(4) * 10 + keep.sum(5), 33);
        keep.pass(0);
        Checks.due("no minute passed", keep.sum(4) * 10 + keep.sum(5), 33);
        keep.keep(0);
        keep.pass(1);
        Checks.due("none slid in the latest", keep.sum(4) * 10 + keep.sum(5), 0);
        Checks.due("in all", keep.sum(3), 3);
        keep.take(0);
        Checks.due("as the slot keeps it", keep.sum(4) * 10 + keep.sum(5), 33);
        TideKeep two = Checks.on("beach 3 1; sand 0; heap 5 1 0; hump 8 0 0; damp 8; dry 60; pack 0;", "");
        two.pass(2);
        Checks.due("of two minutes the latest", two.sum(4) * 10 + two.sum(5), 0);
        TideKeep round = Checks.on("beach 3 1; sand 0; heap 3 0 0; heap 1 1 0; hump 8 0 0; damp 8; dry 60; pack 0;", "");
        round.pass(1);
        Checks.due("two units in one round", round.sum(4) * 10 + round.sum(5), 21);
        Checks.beach(round, "");
        Checks.due("of a new beach", round.sum(4) * 10 + round.sum(5), 0);
    }

    private static void wavesInAll() {
        TideKeep keep = Checks.on("beach 1 1;", "wave 0 1 99; wave 0 1 99; wave 2 1 99; tide 1 2 1 100;");
        int[] came = {2, 3, 5, 5};
        for (int minute = 0; minute < came.length; minute++) {
            keep.pass(1);
            Checks.due("WAVES behind minute " + minute, keep.sum(6), came[minute]);
        }
        Checks.sea(keep, "wave 4 1 99;");
        Checks.due("a new sea changes nothing", keep.sum(6), 5);
        keep.pass(1);
        Checks.due("its wave", keep.sum(6), 6);
    }

    private static void otherSums() {
        TideKeep keep = new TideKeep();
        for (int what : new int[] {-1, 7, 8, Integer.MIN_VALUE, Integer.MAX_VALUE}) {
            Checks.due("sum(" + what + ")", keep.sum(what), TideKeep.NONE);
        }
    }

    private static void keep() {
        TideKeep keep = Checks.on("beach 3 2; sand 3; heap 6 1 1; flag 1 1; fall 0; tire 2; dry 2; damp 5; pack 1;",
            "wave 3 2 1; tide 0 99 1 60; reach 1 2; level 1 4; cut 1;");
        Checks.plan(keep, "hand dig 0 0 1 1 pack 1 1 wall 2 1; hand wet 1 1 rest;");
        keep.work(0);
        keep.chance(99);
        for (int slot = 0; slot < 3; slot++) {
            keep.pass(2);
            Checks.due("keep(" + slot + ")", keep.keep(slot), 2 * slot + 2);
        }
        keep.work(TideKeep.NONE);
        keep.chance(5);
        keep.pass(20);
        TideKeep other = Checks.on("beach 3 2; sand 3; heap 6 1 1; flag 1 1; fall 0; tire 2; dry 2; damp 5; pack 1;",
            "wave 3 2 1; tide 0 99 1 60; reach 1 2; level 1 4; cut 1;");
        Checks.plan(other, "hand dig 0 0 1 1 pack 1 1 wall 2 1; hand wet 1 1 rest;");
        other.work(0);
        other.chance(99);
        for (int slot = 0; slot < 3; slot++) {
            other.pass(2);
            keep.take(slot);
            dueSame(keep, other);
        }
        keep.pass(9);
        other.pass(9);
        dueSame(keep, other);
        keep.take(0);
        keep.pass(13);
        dueSame(keep, other);
    }

    private static void dueSame(TideKeep keep, TideKeep other) {
        for (int what = 0; what <= 6; what++) {
            Checks.due("sum(" + what + ")", keep.sum(what), other.sum(what));
        }
        for (int c = 0; c < 6; c++) {
            for (int what = 0; what <= 3; what++) {
                Checks.due("cell " + c + ", " + what, keep.cell(c % 3, c / 3, what), other.cell(c % 3, c / 3, what));
            }
        }
        Checks.due("the flag", keep.flag(0, 3), other.flag(0, 3));
        Checks.due("the PLAN that holds", keep.told(23), other.told(23));
    }

    private static void wrongKeep() {
        TideKeep keep = new TideKeep();
        Edges.bounds("keep", keep::keep, 0, 2);
        Edges.changesNothing("keep() of no slot", other -> {
            Edges.refused("keep(3)", other.keep(3));
            Edges.refused("keep(-1)", other.keep(-1));
        });
    }

    private static void take() {
        TideKeep keep = Checks.on("beach 1 1; sand 9;" + FIRM, "tide 0 99 1 100; level 0 0; cut 1;");
        keep.keep(1);
        keep.pass(3);
        keep.keep(2);
        keep.pass(3);
        Checks.due("take(1)", keep.take(1), 0);
        Checks.dueHeights(keep, " 9");
        Checks.due("take(2)", keep.take(2), 3);
        Checks.dueHeights(keep, " 6");
        Checks.due("LOST and WAVES", keep.sum(1) * 10 + keep.sum(6), 33);
        Checks.due("a slot may be taken again", keep.take(2), 3);
        keep.pass(1);
        Checks.due("it keeps what it kept", keep.take(2), 3);
        Checks.dueHeights(keep, " 6");
        keep.pass(2);
        Checks.due("it keeps anew", keep.keep(2), 5);
        keep.pass(1);
        Checks.due("what it kept last", keep.take(2), 5);
        Checks.dueHeights(keep, " 4");
        Checks.sea(keep, "");
        keep.trial(5, 5, 5, 1);
        Checks.plan(keep, "hand rest;");
        Checks.due("take(1)", keep.take(1), 0);
        Checks.due("the SEA, TRIED and PLANS are none of that",
            keep.told(13) + keep.count(2) * 10 + keep.told(22) * 100, 109);
    }

    private static void wrongTake() {
        TideKeep keep = new TideKeep();
        for (int wrong : new int[] {-1, 3, Integer.MIN_VALUE, Integer.MAX_VALUE}) {
            Edges.refused("take(" + wrong + ")", keep.take(wrong));
        }
        for (int slot = 0; slot < 3; slot++) {
            Checks.due("take(" + slot + ")", keep.take(slot), TideKeep.STATE);
        }
        keep.keep(1);
        Checks.due("the others are empty", keep.take(0) + keep.take(2), 2 * TideKeep.STATE);
        Checks.due("this one is not", keep.take(1), 0);
        Edges.changesNothing("take() of an empty slot, and of none", other -> {
            Checks.due("take(2)", other.take(2), TideKeep.STATE);
            Edges.refused("take(3)", other.take(3));
        });
    }

    private static void count() {
        TideKeep keep = new TideKeep();
        for (int what = 0; what <= 4; what++) {
            Checks.due("count(" + what + ") of a new object", keep.count(what), 0);
        }
        Checks.beach(keep, "sand 1; dry 2; heap 1 0 0; heap 1 0 0;");
        Checks.sea(keep, "cut 1; wave 1 1 1;");
        keep.trial(1, 1, 1, 1);
        keep.trial(1, 1, 1, 1);
        keep.trial(1, 1, 1, 1);
        keep.right(1, 1, 0);
        keep.feed(0, 0, 0, 0, 0);
        keep.end(17);
        int[] want = {4, 2, 3, 1, 17};
        for (int what = 0; what < want.length; what++) {
            Checks.due("count(" + what + ")", keep.count(what), want[what]);
        }
    }

    private static void otherCounts() {
        TideKeep keep = new TideKeep();
        for (int what : new int[] {-1, 5, 6, Integer.MIN_VALUE, Integer.MAX_VALUE}) {
            Checks.due("count(" + what + ")", keep.count(what), TideKeep.NONE);
        }
    }
}
