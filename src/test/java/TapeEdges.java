/** Edges of THE TAPE and its TOKENS. */
final class TapeEdges {
    private static final int BLANKS = 0x20202020;

    private TapeEdges() {
    }

    static void all() {
        Edges.edge("Terms I", "THE TAPE has at most 900 bytes", TapeEdges::mostBytes);
        Edges.edge("Terms I", "each call that reads it empties it, whatever it tells", TapeEdges::emptied);
        Edges.edge("Promise 2", "Twenty bytes come behind THE TAPE, the highest of each int first: how many it has",
            TapeEdges::feed);
        Edges.edge("Promise 2", "FULL when there would be more than 900", TapeEdges::full);
        Edges.edge("Promise 3", "THE TAPE has its first n bytes alone: n", TapeEdges::end);
        Edges.edge("Promise 3", "NONE when it has not so many, or n is below 0", TapeEdges::wrongEnd);
        Edges.edge("Terms I", "TOKENS with any blanks (32, 10) between", TapeEdges::blanks);
        Edges.edge("Terms I", "WORDS (small letters, as many as there are, 8 at most)", TapeEdges::words);
        Edges.edge("Terms I", "N (digits, as many as there are, 3 at most)", TapeEdges::numbers);
        Edges.edge("Terms I", "3 at most), ; .", TapeEdges::semicolons);
    }

    private static int blanks(TideKeep keep) {
        return keep.feed(BLANKS, BLANKS, BLANKS, BLANKS, BLANKS);
    }

    private static void mostBytes() {
        TideKeep keep = new TideKeep();
        for (int i = 1; i <= 45; i++) {
            Checks.due("feed " + i, blanks(keep), 20 * i);
        }
        Checks.due("the 46th feed", blanks(keep), TideKeep.FULL);
        Checks.due("end(900)", keep.end(900), 900);
        Checks.due("900 blanks tell nothing", keep.beach(), 0);
        Checks.put(keep, " ".repeat(892) + "sand 40;");
        Checks.due("bytes", keep.count(4), 900);
        Checks.due("the 900th is read", keep.beach(), 1);
        Checks.due("sand", keep.told(2), 40);
        Checks.put(keep, " ".repeat(899) + "?");
        Checks.due("the 900th is none of a token", keep.sea(), TideKeep.NONE);
        Edges.dueFault(keep, "899 blanks and ?", 1, 899);
        Checks.put(keep, "\n".repeat(894) + "sand 4");
        Checks.due("nothing is behind the 900th", keep.beach(), TideKeep.NONE);
        Edges.dueFault(keep, "894 blanks and sand 4", 1, 900);
    }

    private static void emptied() {
        TideKeep keep = new TideKeep();
        dueEmpty(keep, "beach()", Checks.beach(keep, "beach 2 1;"), 1);
        dueEmpty(keep, "beach() with a FAULT", Checks.beach(keep, "beach 9 1;"), TideKeep.NONE);
        dueEmpty(keep, "beach() with a FAULT ahead of much", Checks.beach(keep, "! beach 2 1; sand 4;"), TideKeep.NONE);
        dueEmpty(keep, "sea()", Checks.sea(keep, "cut 1;"), 1);
        dueEmpty(keep, "sea() with a FAULT", Checks.sea(keep, "cut 10;"), TideKeep.NONE);
        dueEmpty(keep, "plan() with a FAULT", Checks.plan(keep, "hand"), TideKeep.NONE);
        dueEmpty(keep, "plan()", Checks.plan(keep, "hand rest;"), 0);
        dueEmpty(keep, "which()", Checks.which(keep, "&&"), 0);
        dueEmpty(keep, "which() of no such row", Checks.which(keep, "&&&"), TideKeep.NONE);
        Checks.plan(keep, "hand rest;");
        Checks.plan(keep, "hand rest;");
        dueEmpty(keep, "plan() that is FULL", Checks.plan(keep, "hand rest;"), TideKeep.FULL);
        Checks.due("an empty tape is read as empty", keep.sea(), 0);
        onlyByThose();
    }

    private static void dueEmpty(TideKeep keep, String call, int got, int want) {
        Checks.due(call, got, want);
        Checks.due("bytes behind " + call, keep.count(4), 0);
        Checks.due("end(1) behind " + call, keep.end(1), TideKeep.NONE);
    }

    private static void onlyByThose() {
        TideKeep keep = Checks.on("beach 2 2; flag 0 0; flag 1 1;", "wave 1 1 1;");
        Checks.plan(keep, "hand rest;");
        Checks.put(keep, "cut 7;");
        keep.fault(0);
        keep.told(0);
        keep.work(0);
        keep.pass(2);
        keep.keep(0);
        keep.take(0);
        keep.last(0, 0, 1, 5);
        keep.stand(1, 1, 5);
        keep.outlasts(0, 1, 1, 5, true);
        keep.contest(0, 1, 5);
        keep.row(0, 2, 1, 5);
        keep.again(0, 1, 5);
        keep.next();
        Checks.due("bytes behind calls that do not read", keep.count(4), 6);
        Checks.due("sea()", keep.sea(), 1);
        Checks.due("cut", keep.told(21), 7);
    }

    private static int four(String text) {
        return text.charAt(0) << 24 | text.charAt(1) << 16 | text.charAt(2) << 8 | text.charAt(3);
    }

    private static void feed() {
        TideKeep keep = new TideKeep();
        Checks.due("the first feed", keep.feed(four("wave"), four(" 359"), four(" 8 9"), four("9;cu"), four("t 7;")), 20);
        Checks.due("bytes", keep.count(4), 20);
        Checks.due("sea()", keep.sea(), 2);
        Checks.due("minute", keep.wave(0, 0), 359);
        Checks.due("REACH", keep.wave(0, 1), 8);
        Checks.due("LEVEL", keep.wave(0, 2), 99);
        Checks.due("cut", keep.told(21), 7);
        Checks.due("a feed", keep.feed(four("san\u00ff"), -1, -1, -1, -1), 20);
        keep.end(3);
        Checks.due("behind three bytes", keep.feed(four("d 3;"), four("dry "), four("5;  "), BLANKS, BLANKS), 23);
        Checks.due("beach()", keep.beach(), 2);
        Checks.due("sand and dry", keep.told(2) * 10 + keep.told(4), 35);
        keep.feed(four("cut "), four("1;\u0000 "), BLANKS, BLANKS, BLANKS);
        keep.feed(-1, -1, -1, -1, -1);
        Checks.due("two feeds", keep.count(4), 40);
        Checks.due("a byte of 0", keep.sea(), TideKeep.NONE);
        Edges.dueFault(keep, "a byte of 0", 1, 6);
    }

    private static void full() {
        TideKeep keep = new TideKeep();
        Checks.put(keep, " ".repeat(874) + "cut 3;");
        Checks.due("the feed that makes it 900", blanks(keep), 900);
        Checks.due("a feed more", keep.feed(-1, -1, -1, -1, -1), TideKeep.FULL);
        Checks.due("and one more", blanks(keep), TideKeep.FULL);
        Checks.due("bytes stay", keep.count(4), 900);
        Checks.due("what was fed stays", keep.sea(), 1);
        Checks.due("cut", keep.told(21), 3);
        Checks.put(keep, " ".repeat(875) + "cut 4;");
        Checks.due("a feed that would make it 901", keep.feed(-1, -1, -1, -1, -1), TideKeep.FULL);
        Checks.due("bytes stay", keep.count(4), 881);
        Checks.due("what was fed stays", keep.sea(), 1);
        Checks.due("cut", keep.told(21), 4);
        Checks.put(keep, " ".repeat(899));
        Checks.due("a feed that would make it 919", blanks(keep), TideKeep.FULL);
        Checks.due("end(880)", keep.end(880), 880);
        Checks.due("there is room again", blanks(keep), 900);
    }

    private static void end() {
        TideKeep keep = new TideKeep();
        Checks.due("end(0) of nothing", keep.end(0), 0);
        Checks.put(keep, "cut 3;cut 4;");
        Checks.due("end(12) of 12", keep.end(12), 12);
        Checks.due("end(11)", keep.end(11), 11);
        Checks.due("end(6)", keep.end(6), 6);
        Checks.due("bytes", keep.count(4), 6);
        Checks.due("sea()", keep.sea(), 1);
        Checks.due("cut", keep.told(21), 3);
        Checks.put(keep, "cut 9;");
        Checks.due("end(0)", keep.end(0), 0);
        Checks.put(keep, "cut 5;");
        Checks.due("a text behind end(0)", keep.sea(), 1);
        Checks.due("cut", keep.told(21), 5);
        Checks.put(keep, "sand 25;");
        keep.end(6);
        Checks.put(keep, ";");
        Checks.due("a text behind a number cut off", keep.beach(), 1);
        Checks.due("sand", keep.told(2), 2);
        Checks.put(keep, "sand 2");
        Checks.put(keep, "5;");
        Checks.due("a number fed in two parts", keep.beach(), 1);
        Checks.due("sand", keep.told(2), 25);
    }

    private static void wrongEnd() {
        TideKeep keep = new TideKeep();
        Checks.due("end(1) of nothing", keep.end(1), TideKeep.NONE);
        Checks.due("end(-1) of nothing", keep.end(-1), TideKeep.NONE);
        blanks(keep);
        for (int wrong : new int[] {21, 900, 901, Integer.MAX_VALUE, -1, -20, Integer.MIN_VALUE}) {
            Checks.due("end(" + wrong + ") of 20", keep.end(wrong), TideKeep.NONE);
            Checks.due("bytes stay", keep.count(4), 20);
        }
        keep.end(7);
        Checks.due("end(8) of 7, where there were 20", keep.end(8), TideKeep.NONE);
        Checks.due("bytes stay", keep.count(4), 7);
    }

    private static void blanks() {
        Edges.beachTaken("beach3 4;sand5;flag 2 3;", 3);
        Edges.beachTaken(" \n  beach \n 3\n\n4 ; \n sand\n5\n; \n", 2);
        Edges.beachTaken(" ", 0);
        Edges.beachTaken("\n", 0);
        Edges.planTaken("\nhand\nrest\n rest;");
        Edges.seaTaken("wave 1  \n  1\n1;\ncut\n1;", 2);
        for (char other : new char[] {0, 9, 11, 12, 13, 31, 33, 127, 128, 160, 255}) {
            Edges.beachFault("sand" + other + "5;", 1, 4);
            Edges.seaFault(other + "cut 1;", 1, 0);
            Edges.planFault("hand rest;" + other, 1, 10);
        }
        Edges.beachFault("heap 1 2 0 0;", 1, 11);
        Edges.beachFault("sand 1\n2;", 1, 7);
        Edges.beachFault("sa nd 1;", 1, 0);
    }

    private static void words() {
        Edges.beachFault("sands 5;", 1, 0);
        Edges.beachFault("san 5;", 1, 0);
        Edges.beachFault("san d 5;", 1, 0);
        Edges.beachFault("asand 5;", 1, 0);
        Edges.beachFault("zsand 5;", 1, 0);
        Edges.beachFault("sandz 5;", 1, 0);
        Edges.beachFault("sanda5;", 1, 0);
        Edges.beachFault("sanddry 5;", 1, 0);
        Edges.beachFault("sandsand 5;", 1, 0);
        Edges.beachFault("sand 5; sandsandsand 5;", 1, 8);
        Edges.beachFault("heapheaph 1 0 0;", 1, 0);
        Edges.beachFault("Sand 5;", 1, 0);
        Edges.beachFault("sAnd 5;", 1, 0);
        Edges.beachFault("sanD 5;", 1, 0);
        Edges.beachFault("`sand 5;", 1, 0);
        Edges.beachFault("sand{5;", 1, 4);
        Edges.beachFault("sand`5;", 1, 4);
        Edges.beachFault("sand 5;zzzzzzzz", 1, 7);
        Edges.beachFault("sand 5;azazazaza", 1, 7);
        Edges.seaFault("wavewavewave 1 1 1;", 1, 0);
        Edges.planFault("hand restrest;", 1, 5);
        Edges.planFault("handrest;", 1, 0);
        Edges.planFault("hand restrestrestrest;", 1, 5);
    }

    private static void numbers() {
        Edges.beachTaken("sand 040;", 1);
        Edges.beachTaken("sand 000;", 1);
        Edges.beachTaken("sand 9;", 1);
        Edges.seaTaken("wave 359 008 099;", 1);
        Edges.beachFault("sand 0000;", 1, 5);
        Edges.beachFault("sand 0005;", 1, 5);
        Edges.beachFault("sand 1000;", 1, 5);
        Edges.beachFault("sand 4294967296;", 1, 5);
        Edges.beachFault("sand 18446744073709551616;", 1, 5);
        Edges.beachFault("sand 999;", 2, 5);
        Edges.beachFault("beach 55;", 2, 6);
        Edges.beachFault("beach 5 55;", 2, 8);
        Edges.beachFault("sand /;", 1, 5);
        Edges.beachFault("sand :;", 1, 5);
        Edges.beachFault("sand 5/;", 1, 6);
        Edges.beachFault("sand 5:;", 1, 6);
        Edges.beachFault("sand -5;", 1, 5);
        Edges.beachFault("sand +5;", 1, 5);
        Edges.beachFault("sand 5x;", 1, 6);
        Edges.seaFault("wave 0359 1 1;", 1, 5);
        Edges.planFault("hand wet 0000 0;", 1, 9);
    }

    private static void semicolons() {
        Edges.beachTaken("sand 5;dry 5;", 2);
        Edges.beachFault("sand 5.", 1, 6);
        Edges.beachFault("sand 5,", 1, 6);
        Edges.beachFault("sand 5:", 1, 6);
        Edges.beachFault("sand 5<", 1, 6);
        Edges.seaFault("cut 5: ", 1, 5);
        Edges.planFault("hand rest,", 1, 9);
    }
}
