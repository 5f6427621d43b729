/** Edges of a PLAN's text, of plan() and of act(). */
final class PlanEdges {
    private PlanEdges() {
    }

    static void all() {
        Edges.edge("Terms I", "A PLAN is a text = {clause \";\"}", PlanEdges::text);
        Edges.edge("Terms I", "clause = \"hand\" ACT {ACT}", PlanEdges::hand);
        Edges.edge("Terms I", "ACT = \"dig\" N N N N | (\"pack\" | \"wet\" | \"wall\") N N | \"rest\"",
            PlanEdges::acts);
        Edges.edge("Terms I", "At most 4 HANDS", PlanEdges::fourHands);
        Edges.edge("Terms I", "each of at most 8 ACTS", PlanEdges::eightActs);
        Edges.edge("Terms I", "N as x and y of CELLS", PlanEdges::cells);
        Edges.edge("Terms I", "(dig: from one to another, unlike one)", PlanEdges::anotherCell);
        Edges.edge("Promise 6", "THE TAPE is a PLAN more: its number", PlanEdges::numbers);
        Edges.edge("Promise 6", "NONE with a FAULT", PlanEdges::fault);
        Edges.edge("Promise 6", "FULL: there are 3 (THE TAPE is emptied, fault() stays)", PlanEdges::full);
        Edges.edge("Promise 10", "HANDS of a PLAN (hand NONE)", PlanEdges::handsOfPlan);
        Edges.edge("Promise 10", "or ACTS of a HAND (k NONE)", PlanEdges::actsOfHand);
        Edges.edge("Promise 10", "what 0: 0 dig, 1 pack, 2 wet, 3 wall, 4 rest, 1: its CELL (NONE),"
            + " 2: the CELL to which it digs (NONE)", PlanEdges::act);
        Edges.edge("Promise 10", "the CELL to which it digs (NONE); RANGE", PlanEdges::wrongAct);
    }

    private static void text() {
        Edges.planTaken("");
        Edges.planTaken(" \n ");
        Edges.planTaken("hand rest;");
        Edges.planTaken("hand rest;hand rest;");
        Edges.planFault("hand rest", 1, 9);
        Edges.planFault("hand rest;hand rest", 1, 19);
        Edges.planFault(";", 1, 0);
        Edges.planFault("hand rest;;", 1, 10);
        Edges.planFault("rest;", 1, 0);
        Edges.planFault("1;", 1, 0);
        Edges.planFault("sand 1;", 1, 0);
        TideKeep keep = new TideKeep();
        Checks.plan(keep, "");
        Checks.due("HANDS of an empty plan", keep.act(0, TideKeep.NONE, 0, 0), 0);
        Checks.due("it may hold", keep.work(0), 1);
        Checks.due("minutes pass", keep.pass(3), 3);
    }

    private static void hand() {
        Edges.planFault("hand;", 1, 4);
        Edges.planFault("hand", 1, 4);
        Edges.planFault("hand rest;hand;", 1, 14);
        Edges.planFault("hand 1;", 1, 5);
        Edges.planFault("hand hand rest;", 1, 5);
        Edges.planFault("hand rest hand rest;", 1, 10);
        Edges.planFault("hand sand 1;", 1, 5);
        Edges.planTaken("hand rest rest;");
    }

    private static void acts() {
        String[] words = {"dig", "pack", "wet", "wall", "rest"};
        String[] numbers = {" 0 0 1 1", " 0 0", " 0 0", " 0 0", ""};
        for (int i = 0; i < words.length; i++) {
            String act = "hand " + words[i] + numbers[i];
            Edges.planTaken(act + ";");
            Edges.planTaken(act + " rest;");
            Edges.planFault(act, 1, act.length());
            Edges.planFault(act + " 0;", 1, act.length() + 1);
            if (i < 4) {
                String few = act.substring(0, act.length() - 2);
                Edges.planFault(few + ";", 1, few.length());
                Edges.planFault(few + " rest;", 1, few.length() + 1);
            }
        }
        Edges.planFault("hand heap 0 0;", 1, 5);
        Edges.planFault("hand sand;", 1, 5);
    }

    private static void fourHands() {
        Edges.planTaken("hand rest;".repeat(4));
        Edges.planFault("hand rest;".repeat(5), 4, 40);
        Edges.planFault("hand rest;".repeat(4) + "hand", 4, 40);
        TideKeep keep = new TideKeep();
        Checks.plan(keep, "hand wet 0 0;hand wet 1 0;hand wet 2 0;hand wet 3 0;");
        keep.work(0);
        keep.pass(1);
        for (int x = 0; x < 5; x++) {
            Checks.due("hand " + x, keep.cell(x, 0, 1), x < 4 ? 8 : 4);
        }
    }

    private static void eightActs() {
        String eight = "hand" + " rest".repeat(8);
        Edges.planTaken(eight + ";");
        Edges.planTaken((eight + ";").repeat(4));
        Edges.planFault(eight + " rest;", 4, 45);
        Edges.planFault("hand rest;" + eight + " wet 0 0;", 4, 55);
        Edges.planFault((eight + ";").repeat(3) + eight + " rest;", 4, 45 + 3 * 45);
        TideKeep keep = new TideKeep();
        Checks.plan(keep, "hand" + " rest".repeat(7) + " wet 1 1;");
        keep.work(0);
        keep.pass(7);
        Checks.due("seven acts", keep.cell(1, 1, 1), 4);
        keep.pass(1);
        Checks.due("the eighth", keep.cell(1, 1, 1), 8);
    }

    private static void cells() {
        String[] acts = {"pack", "wet", "wall", "dig"};
        for (String act : acts) {
            int x = act.length() + 6;
            String rest = act.equals("dig") ? " 1 1;" : ";";
            Edges.planTaken("hand " + act + " 0 0" + rest);
            Edges.planTaken("hand " + act + " 4 4" + rest);
            Edges.planFault("hand " + act + " 5 0" + rest, 2, x);
            Edges.planFault("hand " + act + " 0 5" + rest, 2, x + 2);
        }
        Edges.planTaken("hand dig 0 0 4 4;");
        Edges.planFault("hand dig 0 0 5 0;", 2, 13);
        Edges.planFault("hand dig 0 0 0 5;", 2, 15);
        TideKeep keep = Checks.on("beach 8 1;", "");
        Checks.due("as many columns as the beach has", Checks.plan(keep, "hand wet 7 0;"), 0);
        Checks.due("as many rows", Checks.plan(keep, "hand wet 0 1;"), TideKeep.NONE);
        Edges.dueFault(keep, "hand wet 0 1;", 2, 11);
        Checks.beach(keep, "beach 1 8;");
        Checks.due("of the beach of now", Checks.plan(keep, "hand wet 0 7;"), 0);
        Checks.due("its cell", keep.act(0, 0, 0, 1), 7);
        Checks.due("of the beach of now", Checks.plan(keep, "hand wet 7 0;"), TideKeep.NONE);
        Checks.due("a beach with a fault", Checks.beach(keep, "beach 8 8; x"), TideKeep.NONE);
        Checks.due("of the beach of now", Checks.plan(keep, "hand wet 7 0;"), TideKeep.NONE);
    }

    private static void anotherCell() {
        Edges.planTaken("hand dig 1 1 1 2;");
        Edges.planTaken("hand dig 1 1 2 1;");
        Edges.planTaken("hand dig 1 2 2 1;");
        Edges.planTaken("hand dig 0 0 4 4;");
        Edges.planTaken("hand dig 4 0 0 1;");
        Edges.planFault("hand dig 1 1 1 1;", 3, 15);
        Edges.planFault("hand dig 4 3 4 3;", 3, 15);
        Edges.planFault("hand dig 0 0 0 0;", 3, 15);
        Edges.planFault("hand rest dig 0 0 1 0 dig 2 1 2 1;", 3, 32);
    }

    private static void numbers() {
        TideKeep keep = new TideKeep();
        for (int number = 0; number < 3; number++) {
            Checks.due("a plan", Checks.plan(keep, "hand rest;".repeat(number + 1)), number);
            Checks.due("PLANS", keep.told(22), number + 1);
        }
        for (int number = 0; number < 3; number++) {
            Checks.due("HANDS of plan " + number, keep.act(number, TideKeep.NONE, 0, 0), number + 1);
        }
    }

    private static void fault() {
        TideKeep keep = new TideKeep();
        Checks.plan(keep, "hand wet 0 0;");
        Checks.due("a faulty plan", Checks.plan(keep, "hand rest;hand rest;hand dig 0 0 0 0;"), TideKeep.NONE);
        Checks.due("PLANS", keep.told(22), 1);
        Edges.refused("it is none", keep.act(1, TideKeep.NONE, 0, 0));
        Edges.refused("it can't hold", keep.work(1));
        Checks.due("the next one has its number", Checks.plan(keep, "hand pack 1 0;"), 1);
        Checks.due("HANDS", keep.act(1, TideKeep.NONE, 0, 0), 1);
        Checks.due("ACTS", keep.act(1, 0, TideKeep.NONE, 0), 1);
        Checks.due("the first plan stays", keep.act(0, 0, 0, 0), 2);
        for (String fault : new String[] {"hand rest", "x", "hand rest;".repeat(5), "hand dig 0 0 1 1 wall 1 3;"}) {
            Edges.changesNothing("plan() of " + fault,
                other -> Checks.due("plan() of " + fault, Checks.plan(other, fault), TideKeep.NONE));
        }
    }

    private static void full() {
        TideKeep keep = new TideKeep();
        for (int number = 0; number < 3; number++) {
            Checks.plan(keep, "hand wet 0 0;");
        }
        Checks.due("a fourth", Checks.plan(keep, "hand rest;hand rest;"), TideKeep.FULL);
        Checks.due("the tape is emptied", keep.count(4), 0);
        Edges.dueFault(keep, "none before", 0, TideKeep.NONE);
        Checks.due("a faulty one", Checks.plan(keep, "hand"), TideKeep.FULL);
        Checks.due("the tape is emptied", keep.count(4), 0);
        Edges.dueFault(keep, "none before", 0, TideKeep.NONE);
        Checks.due("of an empty tape", keep.plan(), TideKeep.FULL);
        Checks.due("a sea with a fault", Checks.sea(keep, "cut 10;"), TideKeep.NONE);
        Checks.due("a fourth", Checks.plan(keep, "hand rest;"), TideKeep.FULL);
        Edges.dueFault(keep, "the sea's", 2, 4);
        Checks.due("PLANS", keep.told(22), 3);
        Checks.due("the plans stay", keep.act(2, 0, 0, 0) * 10 + keep.act(0, TideKeep.NONE, 0, 0), 21);
        Checks.beach(keep, "");
        Checks.due("there is room on a new beach", Checks.plan(keep, "hand rest;"), 0);
    }

    private static void handsOfPlan() {
        TideKeep keep = new TideKeep();
        Checks.plan(keep, "");
        Checks.plan(keep, "hand rest rest;");
        Checks.plan(keep, "hand rest;".repeat(4));
        int[] hands = {0, 1, 4};
        for (int plan = 0; plan < 3; plan++) {
            Checks.due("HANDS of plan " + plan, keep.act(plan, TideKeep.NONE, 0, 0), hands[plan]);
        }
    }

    private static void actsOfHand() {
        TideKeep keep = new TideKeep();
        Checks.plan(keep, "hand rest;hand" + " rest".repeat(8) + ";hand rest rest;hand rest rest rest;");
        int[] acts = {1, 8, 2, 3};
        for (int hand = 0; hand < 4; hand++) {
            Checks.due("ACTS of hand " + hand, keep.act(0, hand, TideKeep.NONE, 0), acts[hand]);
        }
    }

    private static void act() {
        TideKeep keep = Checks.on("beach 3 2;", "");
        Checks.plan(keep, "hand rest;hand dig 2 1 0 1 pack 1 1 wet 2 0 wall 0 1 rest;");
        int[][] want = {{0, 5, 3}, {1, 4, TideKeep.NONE}, {2, 2, TideKeep.NONE}, {3, 3, TideKeep.NONE},
            {4, TideKeep.NONE, TideKeep.NONE}};
        for (int k = 0; k < want.length; k++) {
            for (int what = 0; what < 3; what++) {
                Checks.due("act(0, 1, " + k + ", " + what + ")", keep.act(0, 1, k, what), want[k][what]);
            }
        }
        Checks.due("the first hand", keep.act(0, 0, 0, 0), 4);
    }

    private static void wrongAct() {
        TideKeep keep = new TideKeep();
        Edges.refused("no plan", keep.act(0, TideKeep.NONE, 0, 0));
        Checks.plan(keep, "hand rest rest rest;hand dig 0 0 1 1;");
        Checks.plan(keep, "hand rest;");
        Edges.bounds("plan", plan -> keep.act(plan, 0, 0, 0), 0, 1);
        Edges.bounds("hands of plan", plan -> keep.act(plan, TideKeep.NONE, 0, 0), 0, 1);
        Edges.bounds("hand (NONE: hands)", hand -> keep.act(0, hand, 0, 0), TideKeep.NONE, 1);
        Edges.bounds("acts of hand", hand -> keep.act(1, hand, TideKeep.NONE, 0), TideKeep.NONE, 0);
        Edges.bounds("k (NONE: acts)", k -> keep.act(0, 0, k, 0), TideKeep.NONE, 2);
        Edges.bounds("k of a hand with one act", k -> keep.act(0, 1, k, 1), TideKeep.NONE, 0);
        Edges.bounds("what", what -> keep.act(0, 1, 0, what), 0, 2);
        TideKeep none = new TideKeep();
        Checks.plan(none, "");
        Edges.refused("a hand of a plan without hands", none.act(0, 0, TideKeep.NONE, 0));
    }
}
