/** Promises 1 to 10: what is told. */
public final class ToldTest {
    public static void main(String[] args) {
        newObject();
        feedAndEnd();
        goodBeaches();
        beachReplaces();
        beachFaults();
        beachFaultLeavesAll();
        goodSeas();
        seaFaults();
        plans();
        planFaults();
        faultOf();
        toldAll();
        waves();
        acts();
        oneAfterAnother();
        cutOff();
        Checks.finish("ToldTest");
    }

    /** Each text is read as if it were the first, faults between them or not. */
    private static void oneAfterAnother() {
        TideKeep keep = new TideKeep();
        for (int i = 0; i < 6; i++) {
            Checks.due("beach " + i, Checks.beach(keep, "beach 3 2; sand 2; heap 30 1 1; stone 2 1; flag 0 0; flag 1 0;"), 6);
            Checks.due("its clauses", keep.count(0), 6);
            Checks.due("flags", keep.told(11), 2);
            Checks.dueHeights(keep, " 2 2 2 2 32 2");
            Checks.due("sea " + i, Checks.sea(keep, "wave 1 1 1; wave 2 2 2; cut 3;"), 3);
            Checks.due("its clauses", keep.count(1), 3);
            Checks.due("waves", keep.told(12), 2);
            Checks.due("a plan", Checks.plan(keep, "hand rest rest; hand rest;"), 0);
            Checks.due("its hands", keep.act(0, -1, 0, 0) * 10 + keep.act(0, 0, -1, 0), 22);
            Checks.due("a bare beach", Checks.beach(keep, "damp 3;"), 1);
            Checks.due("its clauses", keep.count(0), 1);
            Checks.due("no flags", keep.told(11), 0);
            Checks.due("a bare sea", Checks.sea(keep, ""), 0);
            Checks.due("a fault", Checks.beach(keep, "flag 0 0; stone 0 0; heap 40 0 0; sand 3; sand"), TideKeep.NONE);
            Checks.due("a fault", Checks.sea(keep, "wave 1 1 1; tide 1 2 3 4; cut 2; cut"), TideKeep.NONE);
            Checks.due("a fault", Checks.plan(keep, "hand rest; hand rest; hand wet"), TideKeep.NONE);
        }
    }

    /** Bytes that end() took away are not read. */
    private static void cutOff() {
        TideKeep keep = new TideKeep();
        Checks.put(keep, "sand 55;");
        keep.end(6);
        Checks.due("a number is cut off", keep.beach(), TideKeep.NONE);
        Checks.due("kind and place", keep.fault(0) * 100 + keep.fault(1), 106);
        Checks.put(keep, "sand 5;");
        keep.end(3);
        Checks.put(keep, "d 5;");
        Checks.due("a text in two parts", keep.beach(), 1);
        Checks.put(keep, "cut 3;;;;;");
        keep.end(6);
        Checks.due("behind the end", keep.sea(), 1);
    }

    private static void newObject() {
        TideKeep keep = new TideKeep();
        int[] told = {5, 5, 6, 2, 10, 4, 1, 0, 4, 6, 1, 0, 0, -1, -1, -1, -1, 1, 3, 4, 8, 1, 0, -1};
        for (int what = 0; what < told.length; what++) {
            Checks.due("new told(" + what + ")", keep.told(what), told[what]);
        }
        for (int y = 0; y < 5; y++) {
            for (int x = 0; x < 5; x++) {
                Checks.due("new HEIGHT", keep.cell(x, y, 0), 6);
                Checks.due("new WET", keep.cell(x, y, 1), 4);
                Checks.due("new PACK", keep.cell(x, y, 2), 0);
                Checks.due("new STONE", keep.cell(x, y, 3), 0);
                Checks.due("new HOLDS", keep.cell(x, y, 4), 7);
            }
        }
        int[] sums = {150, 0, 0, 0, 0, 0, 0};
        for (int what = 0; what < sums.length; what++) {
            Checks.due("new sum(" + what + ")", keep.sum(what), sums[what]);
        }
        for (int what = 0; what <= 4; what++) {
            Checks.due("new count(" + what + ")", keep.count(what), 0);
        }
        Checks.due("new flag", keep.flag(0, 0), TideKeep.RANGE);
        Checks.due("new wave", keep.wave(0, 0), TideKeep.RANGE);
        Checks.due("new act", keep.act(0, -1, 0, 0), TideKeep.RANGE);
        for (int slot = 0; slot < 3; slot++) {
            Checks.due("new take", keep.take(slot), TideKeep.STATE);
        }
    }

    private static void feedAndEnd() {
        TideKeep keep = new TideKeep();
        for (int i = 1; i <= 45; i++) {
            Checks.due("feed", keep.feed(0x20202020, 0x20202020, 0x20202020, 0x20202020, 0x20202020), 20 * i);
        }
        Checks.due("the 46th feed", keep.feed(0, 0, 0, 0, 0), TideKeep.FULL);
        Checks.due("bytes of a full tape", keep.count(4), 900);
        Checks.due("900 blanks", keep.beach(), 0);
        Checks.due("the tape is emptied", keep.count(4), 0);

        Checks.due("end(0) of nothing", keep.end(0), 0);
        Checks.due("end(1) of nothing", keep.end(1), TideKeep.NONE);
        keep.feed('c' << 24 | 'u' << 16 | 't' << 8 | ' ', '3' << 24 | ';' << 16, 0, 0, 0);
        Checks.due("end(21) of 20", keep.end(21), TideKeep.NONE);
        Checks.due("end(-1)", keep.end(-1), TideKeep.NONE);
        Checks.due("count behind wrong ends", keep.count(4), 20);
        Checks.due("end(20) of 20", keep.end(20), 20);
        Checks.due("end(6) of 20", keep.end(6), 6);
        Checks.due("end(7) of 6", keep.end(7), TideKeep.NONE);
        Checks.due("sea()", keep.sea(), 1);
        Checks.due("cut", keep.told(21), 3);

        for (int i = 0; i < 44; i++) {
            keep.feed(0x20202020, 0x20202020, 0x20202020, 0x20202020, 0x20202020);
        }
        Checks.due("one byte too many", keep.feed(0, 0, 0, 0, 0) + keep.end(881), 900 + 881);
        Checks.due("feed of 901", keep.feed(0, 0, 0, 0, 0), TideKeep.FULL);
        Checks.due("end(880)", keep.end(880), 880);
        Checks.due("feed of 900", keep.feed(-1, -1, -1, -1, -1), 900);
        Checks.due("bytes of 255", keep.sea(), TideKeep.NONE);
        Checks.due("place of the first 255", keep.fault(1), 880);
    }

    private static void goodBeaches() {
        String[] texts = {"", " \n ", "sand 5;", "sand5;", "\nsand\n005\n;\n", "sand 040;",
            "heap 40 1 1; heap 19 1 1;", "heap 40 1 1; heap 40 1 2;", "stone 1 1; flag 1 1; heap 1 1 1;",
            "sand 0; pack 0; dry 1; damp 0; fall 0; tire 0; hump 1 0 0; beach 1 1; heap 1 0 0;",
            "beach 8 8;sand 40;pack 5;dry 60;damp 16;fall 20;tire 20;hump 15 20 9;heap 40 7 7;",
            "flag 0 0; flag 1 0; flag 2 0;"};
        int[] clauses = {0, 0, 1, 1, 1, 1, 2, 2, 3, 9, 9, 3};
        for (int i = 0; i < texts.length; i++) {
            TideKeep keep = new TideKeep();
            Checks.due("beach() of " + texts[i], Checks.beach(keep, texts[i]), clauses[i]);
            Checks.due("clauses of " + texts[i], keep.count(0), clauses[i]);
            Checks.due("fault of " + texts[i], keep.fault(0), 0);
            Checks.due("place of " + texts[i], keep.fault(1), TideKeep.NONE);
        }
        TideKeep keep = new TideKeep();
        Checks.beach(keep, "flag 1 0; heap 3 1 0; beach2;");
        Checks.due("a letter's run ends at a digit", keep.fault(0) * 100 + keep.fault(1), 522);
        Checks.beach(keep, "beach 2 1; flag 1 0; heap 3 1 0; heap 4 1 0; sand 2; damp 7;");
        Checks.dueHeights(keep, " 2 9");
        Checks.due("WET", keep.cell(0, 0, 1), 7);
        Checks.due("HEIGHT as the flag was put up", keep.flag(0, 2), 9);
    }

    private static void beachReplaces() {
        TideKeep keep = Checks.on("beach 2 1; sand 9; hump 1 0 0; pack 0; stone 1 0; flag 0 0;",
            "wave 0 1 0; cut 2; tide 5 9 1 100;");
        keep.trial(3, 4, 5, 1);
        Checks.plan(keep, "hand wet 0 0;");
        keep.work(0);
        keep.pass(6);
        keep.keep(1);
        long chance = 1;
        for (int draws = 0; draws < 3; draws++) {
            chance = Checks.step(chance);
        }
        Checks.due("LOST", keep.sum(1) > 0 ? 1 : 0, 1);
        Checks.due("the flag fell", keep.flag(0, 3), 0);
        Checks.due("beach()", Checks.beach(keep, "beach 3 1; sand 4; flag 2 0; heap 5 1 0; hump 1 0 0; pack 0;"), 6);
        Checks.dueHeights(keep, " 4 9 4");
        for (int what = 1; what <= 6; what++) {
            Checks.due("sum(" + what + ") of a new beach", keep.sum(what), 0);
        }
        Checks.due("all flags are up", keep.flag(0, 0), 1);
        Checks.due("none fell", keep.flag(0, 3), TideKeep.NONE);
        Checks.due("no stone", keep.cell(1, 0, 3), 0);
        Checks.due("plans are none", keep.told(22), 0);
        Checks.due("none holds", keep.told(23), TideKeep.NONE);
        Checks.due("slots are empty", keep.take(1), TideKeep.STATE);
        Checks.due("the sea stays", keep.told(12), 1);
        Checks.due("the tide stays", keep.told(13), 5);
        Checks.due("tried stays", keep.count(2), 1);
        Checks.due("what wasn't told again", keep.told(5), 4);
        keep.pass(1);
        Checks.sea(keep, "tide 0 300 1 50; reach 1 1; level 0 99;");
        int came = keep.sum(6);
        keep.pass(40);
        for (int draws = 0; draws < 40; draws++) {
            chance = Checks.step(chance);
            if (chance / 65536 % 100 < 50) {
                came++;
                chance = Checks.step(Checks.step(chance));
            }
        }
        Checks.due("the chance stays", keep.sum(6), came);
    }

    private static void beachFault(String text, int kind, int place) {
        TideKeep keep = new TideKeep();
        Checks.due("beach() of " + text, Checks.beach(keep, text), TideKeep.NONE);
        Checks.due("kind of " + text, keep.fault(0), kind);
        Checks.due("place of " + text, keep.fault(1), place);
        Checks.due("the tape is emptied", keep.count(4), 0);
    }

    private static void beachFaults() {
        beachFault("beach 3", 1, 7);
        beachFault("beach 3 ;", 1, 8);
        beachFault("beach", 1, 5);
        beachFault("sand 5", 1, 6);
        beachFault("sand 5 \n ", 1, 9);
        beachFault("sand 5;;", 1, 7);
        beachFault("Sand 5;", 1, 0);
        beachFault("sandy 5;", 1, 0);
        beachFault("abcdefghi 5;", 1, 0);
        beachFault("  wave 0 1 1;", 1, 2);
        beachFault("sand sand;", 1, 5);
        beachFault("sand\t5;", 1, 4);
        beachFault("sand 5 dry 4;", 1, 7);
        beachFault("sand 0041;", 1, 5);
        beachFault("sand -1;", 1, 5);
        beachFault("5;", 1, 0);
        beachFault("sand 5.", 1, 6);
        beachFault("\u00e9", 1, 0);
        beachFault("\u0000", 1, 0);
        beachFault("beach 0 3;", 2, 6);
        beachFault("beach 9 3;", 2, 6);
        beachFault("beach 8 9;", 2, 8);
        beachFault("beach 8 0;", 2, 8);
        beachFault("sand 41;", 2, 5);
        beachFault("sand 999", 2, 5);
        beachFault("pack 6;", 2, 5);
        beachFault("dry 0;", 2, 4);
        beachFault("dry 61;", 2, 4);
        beachFault("damp 17;", 2, 5);
        beachFault("fall 21;", 2, 5);
        beachFault("tire 21;", 2, 5);
        beachFault("hump 0 1 1;", 2, 5);
        beachFault("hump 16 1 1;", 2, 5);
        beachFault("hump 1 21 1;", 2, 7);
        beachFault("hump 1 1 10;", 2, 9);
        beachFault("heap 0 0 0;", 2, 5);
        beachFault("heap 41 0 0;", 2, 5);
        beachFault("heap 1 5 0;", 2, 7);
        beachFault("heap 1 0 5;", 2, 9);
        beachFault("beach 2 3; heap 1 1 3;", 2, 20);
        beachFault("stone 5 0;", 2, 6);
        beachFault("stone 0 5;", 2, 8);
        beachFault("flag 0 5;", 2, 7);
        beachFault("heap 40 1 1; heap 20 1 1;", 2, 23);
        beachFault("sand 1; sand 1;", 3, 8);
        beachFault("sand 1; sand 99;", 3, 8);
        beachFault("pack 1; pack 1;", 3, 8);
        beachFault("dry 1; dry 1;", 3, 7);
        beachFault("damp 1; damp 1;", 3, 8);
        beachFault("fall 1; fall 1;", 3, 8);
        beachFault("tire 1; tire 1;", 3, 8);
        beachFault("hump 1 1 1; hump 1 1 1;", 3, 12);
        beachFault("beach 3 3; beach 3 3;", 3, 11);
        beachFault("beach 3 3; heap 1 0 0; beach 3 3;", 3, 23);
        beachFault("stone 1 1; stone 1 1;", 3, 19);
        beachFault("flag 1 1; flag 1 1;", 3, 17);
        beachFault("flag 0 0; flag 1 0; flag 2 0; flag 0 0;", 4, 30);
        beachFault("heap 1 0 0; beach 2 2;", 5, 12);
        beachFault("stone 0 0; beach 2 2;", 5, 11);
        beachFault("flag 0 0; beach 2 2;", 5, 10);
    }

    private static void beachFaultLeavesAll() {
        TideKeep keep = Checks.on("beach 2 1; sand 9; flag 0 0;", "wave 0 1 0;");
        Checks.plan(keep, "hand wet 0 0;");
        keep.work(0);
        keep.pass(2);
        keep.keep(2);
        Checks.due("a faulty beach", Checks.beach(keep, "beach 3 3; sand 1; flag 4 4;"), TideKeep.NONE);
        Checks.due("columns stay", keep.told(0), 2);
        Checks.due("clauses stay", keep.count(0), 3);
        Checks.due("the minute stays", keep.sum(2), 2);
        Checks.dueHeights(keep, " 8 8");
        Checks.due("the plan stays", keep.told(22), 1);
        Checks.due("it holds", keep.told(23), 0);
        Checks.due("the slot stays", keep.take(2), 2);
    }

    private static void goodSeas() {
        StringBuilder twelve = new StringBuilder();
        for (int i = 0; i < 12; i++) {
            twelve.append("wave ").append(i).append(" 1 1;");
        }
        String[] texts = {"", "wave 359 8 99; wave 0 1 0;", "tide 359 359 60 100;", "tide 0 0 1 0; cut 0;",
            "reach 8 8; level 99 99; cut 9;", "reach 1 1; level 0 0;", twelve.toString()};
        int[] clauses = {0, 2, 1, 2, 3, 2, 12};
        for (int i = 0; i < texts.length; i++) {
            TideKeep keep = new TideKeep();
            Checks.due("sea() of " + texts[i], Checks.sea(keep, texts[i]), clauses[i]);
            Checks.due("clauses of " + texts[i], keep.count(1), clauses[i]);
            Checks.due("fault of " + texts[i], keep.fault(0), 0);
        }
        TideKeep keep = new TideKeep();
        Checks.sea(keep, "wave 1 2 3; cut 4; tide 1 2 3 4;");
        Checks.due("a sea more takes the place of the first", Checks.sea(keep, "reach 2 2;"), 1);
        Checks.due("waves", keep.told(12), 0);
        Checks.due("tide", keep.told(13), TideKeep.NONE);
        Checks.due("cut", keep.told(21), 1);
    }

    private static void seaFault(String text, int kind, int place) {
        TideKeep keep = new TideKeep();
        Checks.sea(keep, "wave 7 1 1; cut 5;");
        Checks.due("sea() of " + text, Checks.sea(keep, text), TideKeep.NONE);
        Checks.due("kind of " + text, keep.fault(0), kind);
        Checks.due("place of " + text, keep.fault(1), place);
        Checks.due("the sea stays", keep.told(12) * 10 + keep.told(21), 15);
        Checks.due("its clauses stay", keep.count(1), 2);
        Checks.due("the tape is emptied", keep.count(4), 0);
    }

    private static void seaFaults() {
        seaFault("sea", 1, 0);
        seaFault("sand 1;", 1, 0);
        seaFault("cut", 1, 3);
        seaFault("cut 1 1;", 1, 6);
        seaFault("wave 0 1;", 1, 8);
        seaFault("wave 360 1 1;", 2, 5);
        seaFault("wave 0 0 1;", 2, 7);
        seaFault("wave 0 9 1;", 2, 7);
        seaFault("wave 0 1 100;", 2, 9);
        seaFault("tide 360 360 1 1;", 2, 5);
        seaFault("tide 0 360 1 1;", 2, 7);
        seaFault("tide 5 4 1 1;", 2, 7);
        seaFault("tide 0 1 0 1;", 2, 9);
        seaFault("tide 0 1 61 1;", 2, 9);
        seaFault("tide 0 1 1 101;", 2, 11);
        seaFault("reach 0 1;", 2, 6);
        seaFault("reach 9 9;", 2, 6);
        seaFault("reach 1 9;", 2, 8);
        seaFault("reach 3 2;", 2, 8);
        seaFault("level 100 100;", 2, 6);
        seaFault("level 0 100;", 2, 8);
        seaFault("level 5 4;", 2, 8);
        seaFault("cut 10;", 2, 4);
        seaFault("tide 0 1 1 1; tide 0 1 1 1;", 3, 14);
        seaFault("reach 1 1; reach 1 1;", 3, 11);
        seaFault("level 1 1; level 1 1;", 3, 11);
        seaFault("cut 1; cut 1;", 3, 7);
        seaFault("wave 0 1 1;".repeat(13), 4, 132);
        seaFault("wave 0 1 1;".repeat(12) + "waves", 1, 132);
    }

    private static void plans() {
        TideKeep keep = new TideKeep();
        Checks.due("an empty plan", Checks.plan(keep, ""), 0);
        Checks.due("its hands", keep.act(0, -1, 0, 0), 0);
        Checks.due("a faulty plan", Checks.plan(keep, "hand dig 0 0 1 1;hand"), TideKeep.NONE);
        Checks.due("it doesn't count", keep.told(22), 1);
        Checks.due("eight acts", Checks.plan(keep, "hand" + " rest".repeat(8) + ";"), 1);
        Checks.due("four hands", Checks.plan(keep, "hand rest;".repeat(4)), 2);
        Checks.plan(keep, "hand;");
        Checks.put(keep, "hand;");
        Checks.due("a fourth plan", keep.plan(), TideKeep.FULL);
        Checks.due("the tape is emptied", keep.count(4), 0);
        Checks.due("the fault stays", keep.fault(0), 0);
        Checks.due("plans", keep.told(22), 3);
        Checks.beach(keep, "beach 2 2;");
        Checks.due("of a new beach", Checks.plan(keep, "hand wet 1 1;"), 0);
        Checks.due("bounds of a new beach", Checks.plan(keep, "hand wet 2 1;"), TideKeep.NONE);
        Checks.due("its place", keep.fault(1), 9);
    }

    private static void planFault(String text, int kind, int place) {
        TideKeep keep = new TideKeep();
        Checks.due("plan() of " + text, Checks.plan(keep, text), TideKeep.NONE);
        Checks.due("kind of " + text, keep.fault(0), kind);
        Checks.due("place of " + text, keep.fault(1), place);
        Checks.due("plans", keep.told(22), 0);
        Checks.due("the tape is emptied", keep.count(4), 0);
    }

    private static void planFaults() {
        planFault("hand;", 1, 4);
        planFault("hand", 1, 4);
        planFault("rest;", 1, 0);
        planFault("hand rest", 1, 9);
        planFault("hand rest hand rest;", 1, 10);
        planFault("hand rest 1;", 1, 10);
        planFault("hand rest;;", 1, 10);
        planFault("hand dig 0 0 1;", 1, 14);
        planFault("hand heap 0 0;", 1, 5);
        planFault("hand dig 5 0 0 0;", 2, 9);
        planFault("hand dig 0 5 0 0;", 2, 11);
        planFault("hand dig 0 0 5 0;", 2, 13);
        planFault("hand dig 0 0 0 5;", 2, 15);
        planFault("hand pack 5 0;", 2, 10);
        planFault("hand wet 0 5;", 2, 11);
        planFault("hand wall 5 5;", 2, 10);
        planFault("hand dig 0 0 0 0;", 3, 15);
        planFault("hand rest;".repeat(4) + "hand rest;", 4, 40);
        planFault("hand" + " rest".repeat(9) + ";", 4, 45);
        planFault("hand" + " rest".repeat(8) + " foo;", 1, 45);
        planFault("hand" + " rest".repeat(8) + " wall 9 9;", 4, 45);
    }

    private static void faultOf() {
        TideKeep keep = new TideKeep();
        Checks.due("ahead of any", keep.fault(0), 0);
        Checks.due("its place", keep.fault(1), TideKeep.NONE);
        Checks.sea(keep, "cut 10;");
        Checks.due("kind", keep.fault(0), 2);
        Checks.due("another what", keep.fault(2), TideKeep.NONE);
        Checks.due("another what", keep.fault(-1), TideKeep.NONE);
        Checks.which(keep, "abc");
        Checks.due("which() has no fault", keep.fault(0) * 100 + keep.fault(1), 204);
        Checks.beach(keep, "sand 1;");
        Checks.due("of the latest", keep.fault(0), 0);
        Checks.due("of the latest", keep.fault(1), TideKeep.NONE);
    }

    private static void toldAll() {
        TideKeep keep = Checks.on("beach 7 6; sand 1; pack 3; dry 4; damp 5; fall 8; tire 9; hump 10 11 2;"
            + " flag 0 0; flag 1 1;", "wave 0 1 1; tide 12 13 14 15; reach 3 4; level 16 17; cut 9;");
        int[] told = {7, 6, 1, 3, 4, 5, 8, 9, 10, 11, 2, 2, 1, 12, 13, 14, 15, 3, 4, 16, 17, 9, 0, -1};
        for (int what = 0; what < told.length; what++) {
            Checks.due("told(" + what + ")", keep.told(what), told[what]);
        }
        for (int what : new int[] {-1, 24, 25, Integer.MIN_VALUE, Integer.MAX_VALUE}) {
            Checks.due("told(" + what + ")", keep.told(what), TideKeep.NONE);
        }
        Checks.plan(keep, "hand rest;");
        Checks.plan(keep, "hand rest;");
        keep.work(1);
        Checks.due("plans", keep.told(22), 2);
        Checks.due("the plan that holds", keep.told(23), 1);
    }

    private static void waves() {
        TideKeep keep = new TideKeep();
        Checks.sea(keep, "wave 359 8 99; wave 3 2 0;");
        int[][] want = {{359, 8, 99}, {3, 2, 0}};
        for (int k = 0; k < 2; k++) {
            for (int what = 0; what < 3; what++) {
                Checks.due("wave(" + k + ", " + what + ")", keep.wave(k, what), want[k][what]);
            }
            Checks.due("another what", keep.wave(k, 3), TideKeep.RANGE);
            Checks.due("another what", keep.wave(k, -1), TideKeep.RANGE);
        }
        Checks.due("another wave", keep.wave(2, 0), TideKeep.RANGE);
        Checks.due("another wave", keep.wave(-1, 0), TideKeep.RANGE);
    }

    private static void acts() {
        TideKeep keep = new TideKeep();
        Checks.plan(keep, "hand dig 1 2 3 4 pack 0 1;hand wet 2 0 wall 4 4 rest;");
        Checks.due("hands", keep.act(0, -1, 7, 7), 2);
        Checks.due("acts of the first", keep.act(0, 0, -1, 0), 2);
        Checks.due("acts of the second", keep.act(0, 1, -1, 0), 3);
        int[][] want = {{0, 11, 23}, {1, 5, -1}, {2, 2, -1}, {3, 24, -1}, {4, -1, -1}};
        for (int i = 0; i < want.length; i++) {
            for (int what = 0; what < 3; what++) {
                Checks.due("act " + i + ", " + what, keep.act(0, i < 2 ? 0 : 1, i < 2 ? i : i - 2, what), want[i][what]);
            }
        }
        int[][] wrong = {{1, -1, 0, 0}, {-1, -1, 0, 0}, {0, 2, 0, 0}, {0, -2, 0, 0}, {0, 0, 2, 0}, {0, 0, -2, 0},
            {0, 0, 0, 3}, {0, 0, 0, -1}, {3, 0, 0, 0}, {0, 2, -1, 0}, {0, 4, -1, 0}};
        for (int[] call : wrong) {
            Checks.due("a wrong act", keep.act(call[0], call[1], call[2], call[3]), TideKeep.RANGE);
        }
    }
}
