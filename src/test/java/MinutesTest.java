/** Promises 11 to 18: minutes. */
public final class MinutesTest {
    // Sand that holds 21 at any wet but 0 and 16, so that nothing slides.
    private static final String FIRM = "hump 8 20 0; damp 8; dry 60; pack 0;";
    // Sand that holds 1 at any wet.
    private static final String LOOSE = "hump 8 0 0; damp 8; dry 60; pack 0;";

    public static void main(String[] args) {
        chance();
        tideMinutes();
        work();
        tire();
        passRange();
        digs();
        digsThatDoNothing();
        packsWetsWalls();
        handsInOrder();
        wavesWet();
        wavesCut();
        wavesAtStones();
        wavesInOrder();
        sun();
        slides();
        slidesWetAndPack();
        slidesBesideStones();
        fiftyRounds();
        flags();
        cells();
        sums();
        keepAndTake();
        Checks.finish("MinutesTest");
    }

    private static void chance() {
        TideKeep keep = new TideKeep();
        Checks.due("chance(-1)", keep.chance(-1), TideKeep.RANGE);
        Checks.due("chance(least int)", keep.chance(Integer.MIN_VALUE), TideKeep.RANGE);
        Checks.due("chance(0)", keep.chance(0), 1);
        Checks.due("chance(2147483647)", keep.chance(2147483647), 1);
        for (int seed : new int[] {0, 1, 7, 65536, 2147483647}) {
            Checks.sea(keep, "tide 0 359 1 50; reach 1 1; level 99 99; cut 0;");
            Checks.beach(keep, "");
            keep.chance(seed);
            keep.pass(100);
            Checks.due("waves by seed " + seed, keep.sum(6), Checks.wavesBy(seed, 100, 50));
        }
        TideKeep first = new TideKeep();
        Checks.sea(first, "tide 0 359 1 30; reach 1 1; level 99 99; cut 0;");
        first.chance(-7);
        first.pass(200);
        Checks.due("waves by the first seed", first.sum(6), Checks.wavesBy(1, 200, 30));
    }

    private static void tideMinutes() {
        TideKeep keep = Checks.on("", "tide 3 11 4 100; reach 1 1; level 99 99;");
        int[] came = {0, 0, 0, 1, 1, 1, 1, 2, 2, 2, 2, 3, 3, 3, 3, 3, 3};
        for (int minute = 0; minute < came.length; minute++) {
            keep.pass(1);
            Checks.due("waves behind minute " + minute, keep.sum(6), came[minute]);
        }
        TideKeep none = Checks.on("", "tide 0 359 1 0;");
        none.pass(360);
        Checks.due("none of a hundred", none.sum(6), 0);
        reachThenLevel();
    }

    private static void reachThenLevel() {
        TideKeep keep = Checks.on("beach 1 8; sand 3; damp 1; dry 60; hump 1 20 0;",
            "tide 0 0 1 100; reach 2 7; level 1 6; cut 2;");
        for (int seed = 1; seed <= 20; seed++) {
            keep.keep(0);
            keep.chance(seed);
            keep.pass(1);
            long chance = Checks.step(Checks.step(seed));
            long reach = 2 + chance / 65536 % 6;
            long level = 1 + Checks.step(chance) / 65536 % 6;
            Checks.due("LOST by seed " + seed, keep.sum(1), 3 > level ? 2 : 0);
            for (int y = 0; y < 8; y++) {
                boolean isReached = 3 > level ? y == 0 : y < reach;
                Checks.due("WET of y " + y + " by seed " + seed, keep.cell(0, y, 1), isReached ? 16 : 1);
            }
            keep.take(0);
        }
    }

    private static void work() {
        TideKeep keep = Checks.on("beach 2 2;" + FIRM, "");
        Checks.due("work(0) without plans", keep.work(0), TideKeep.RANGE);
        Checks.due("work(NONE)", keep.work(TideKeep.NONE), 1);
        Checks.due("work(-2)", keep.work(-2), TideKeep.RANGE);
        Checks.plan(keep, "hand pack 0 0 wet 0 0 pack 1 1;");
        Checks.due("work(1)", keep.work(1), TideKeep.RANGE);
        Checks.due("work(0)", keep.work(0), 1);
        keep.pass(1);
        Checks.due("the first act", keep.cell(0, 0, 2), 1);
        keep.pass(1);
        Checks.due("the second act", keep.cell(0, 0, 1), 12);
        keep.work(0);
        keep.pass(1);
        Checks.due("from the first act again", keep.cell(0, 0, 2), 2);
        keep.pass(2);
        Checks.due("the third act", keep.cell(1, 1, 2), 1);
        keep.pass(1);
        Checks.due("behind the last the first again", keep.cell(0, 0, 2), 3);
        keep.work(TideKeep.NONE);
        Checks.due("none holds", keep.told(23), TideKeep.NONE);
        keep.pass(3);
        Checks.due("none does anything", keep.cell(0, 0, 2), 3);
    }

    private static void tire() {
        TideKeep keep = Checks.on("beach 2 1; tire 2;" + FIRM, "");
        Checks.plan(keep, "hand pack 0 0; hand rest pack 1 0;");
        keep.work(0);
        int[] first = {1, 2, 2, 3, 4, 4};
        int[] second = {0, 1, 1, 1, 2, 2};
        for (int i = 0; i < first.length; i++) {
            keep.pass(1);
            Checks.due("a hand that tires, minute " + i, keep.cell(0, 0, 2), first[i]);
            Checks.due("rest is an act, minute " + i, keep.cell(1, 0, 2), second[i]);
        }
        keep.pass(2);
        keep.work(0);
        keep.pass(1);
        Checks.due("work() takes the rest away", keep.cell(1, 0, 2), 3);
        TideKeep one = Checks.on("beach 1 1; tire 1;" + FIRM, "");
        Checks.plan(one, "hand pack 0 0;");
        one.work(0);
        one.pass(3);
        Checks.due("by a tire of 1", one.cell(0, 0, 2), 2);
    }

    private static void passRange() {
        TideKeep keep = Checks.on("", "wave 0 1 99; wave 359 1 99;");
        Checks.due("pass(-1)", keep.pass(-1), TideKeep.RANGE);
        Checks.due("pass(361)", keep.pass(361), TideKeep.RANGE);
        Checks.due("pass(0)", keep.pass(0), 0);
        Checks.due("pass(359)", keep.pass(359), 359);
        Checks.due("waves", keep.sum(6), 1);
        Checks.due("pass(1)", keep.pass(1), 360);
        Checks.due("waves", keep.sum(6), 2);
        Checks.due("pass(360)", keep.pass(360), 720);
        Checks.due("waves do not come again", keep.sum(6), 2);
    }

    private static void digs() {
        TideKeep keep = Checks.on("beach 2 2; sand 3;" + FIRM, "");
        Checks.plan(keep, "hand wet 0 0 pack 0 0 pack 1 0 dig 0 0 1 0;");
        keep.work(0);
        keep.pass(3);
        Checks.due("PACK of both", keep.cell(0, 0, 2) * 10 + keep.cell(1, 0, 2), 11);
        keep.pass(1);
        Checks.dueHeights(keep, " 2 4 3 3");
        Checks.due("WET of the one", keep.cell(0, 0, 1), 12);
        Checks.due("WET of the other", keep.cell(1, 0, 1), 9);
        Checks.due("PACK of both", keep.cell(0, 0, 2) * 10 + keep.cell(1, 0, 2), 0);

        TideKeep cut = Checks.on("beach 2 1; sand 3;" + FIRM, "");
        Checks.plan(cut, "hand wet 0 0 dig 0 0 1 0 dig 0 0 1 0;");
        cut.work(0);
        cut.pass(3);
        Checks.due("WET is cut", cut.cell(1, 0, 1), (9 * 4 + 12) / 5);
        Checks.due("a diagonal or far dig", Checks.plan(cut, "hand dig 1 0 0 0;"), 1);

        TideKeep far = Checks.on("beach 3 3; sand 2;" + FIRM, "");
        Checks.plan(far, "hand dig 0 0 2 2;");
        far.work(0);
        far.pass(1);
        Checks.dueHeights(far, " 1 2 2 2 2 2 2 2 3");
        TideKeep bare = Checks.on("beach 2 1; sand 0; heap 1 0 0; hump 8 20 0; damp 7; dry 60;", "wave 0 1 9; cut 0;");
        Checks.plan(bare, "hand rest dig 0 0 1 0;");
        bare.work(0);
        bare.pass(2);
        Checks.due("on bare ground WET is the unit's", bare.cell(1, 0, 1), 16);
    }

    private static void digsThatDoNothing() {
        TideKeep bare = Checks.on("beach 2 1; sand 0;" + FIRM, "");
        Checks.plan(bare, "hand pack 0 0 pack 1 0 dig 0 0 1 0;");
        bare.work(0);
        bare.pass(3);
        Checks.dueHeights(bare, " 0 0");
        Checks.due("PACK of both", bare.cell(0, 0, 2) * 10 + bare.cell(1, 0, 2), 11);
        for (int at = 0; at < 2; at++) {
            TideKeep stony = Checks.on("beach 2 1; stone " + at + " 0; sand 3;" + FIRM, "");
            Checks.plan(stony, "hand pack 0 0 pack 1 0 dig 0 0 1 0;");
            stony.work(0);
            stony.pass(3);
            Checks.dueHeights(stony, " 3 3");
            Checks.due("PACK of both", stony.cell(0, 0, 2) * 10 + stony.cell(1, 0, 2), 11);
        }
    }

    private static void packsWetsWalls() {
        TideKeep keep = Checks.on("beach 3 1;" + FIRM, "");
        Checks.plan(keep, "hand pack 0 0; hand wet 1 0; hand wall 2 0;");
        keep.work(0);
        int[] pack = {1, 2, 3, 4, 4, 4};
        int[] wet = {12, 15, 15, 15, 15, 15};
        for (int i = 0; i < pack.length; i++) {
            keep.pass(1);
            Checks.due("PACK", keep.cell(0, 0, 2), pack[i]);
            Checks.due("WET", keep.cell(1, 0, 1), wet[i]);
            Checks.due("STONE", keep.cell(2, 0, 3), 1);
        }
        Checks.dueHeights(keep, " 6 6 6");
        TideKeep soaked = Checks.on("beach 1 1; damp 16; dry 60;", "");
        Checks.plan(soaked, "hand wet 0 0;");
        soaked.work(0);
        soaked.pass(1);
        Checks.due("15 at most", soaked.cell(0, 0, 1), 15);
    }

    private static void handsInOrder() {
        TideKeep keep = Checks.on("beach 3 1; sand 0; heap 1 0 0;" + FIRM, "");
        Checks.plan(keep, "hand dig 0 0 1 0; hand dig 1 0 2 0;");
        Checks.plan(keep, "hand dig 1 0 2 0; hand dig 0 0 1 0;");
        keep.keep(0);
        keep.work(0);
        keep.pass(1);
        Checks.dueHeights(keep, " 0 0 1");
        keep.take(0);
        keep.work(1);
        keep.pass(1);
        Checks.dueHeights(keep, " 0 1 0");
    }

    private static void wavesWet() {
        TideKeep keep = Checks.on("beach 2 3; sand 2;" + FIRM, "wave 1 2 2;");
        keep.pass(1);
        Checks.due("not yet", keep.cell(0, 0, 1), 8);
        keep.pass(1);
        for (int x = 0; x < 2; x++) {
            Checks.due("y 0", keep.cell(x, 0, 1), 16);
            Checks.due("y 1", keep.cell(x, 1, 1), 16);
            Checks.due("y 2", keep.cell(x, 2, 1), 8);
        }
        Checks.due("LOST", keep.sum(1), 0);
        TideKeep far = Checks.on("beach 1 2; sand 2;" + FIRM, "wave 0 8 2;");
        far.pass(1);
        Checks.due("as far as there are", far.cell(0, 1, 1), 16);
    }

    private static void wavesCut() {
        int[] cuts = {0, 1, 2, 3, 9};
        for (int cut : cuts) {
            TideKeep keep = Checks.on("beach 1 3; sand 1; heap 1 0 1; fall 20;" + FIRM, "wave 0 3 1; cut " + cut + ";");
            keep.pass(1);
            Checks.dueHeights(keep, " 1 " + Math.max(0, 2 - cut) + " 1");
            Checks.due("LOST", keep.sum(1), Math.min(2, cut));
            Checks.due("WET on the way", keep.cell(0, 0, 1), 16);
            Checks.due("WET where it stops", keep.cell(0, 1, 1), 16);
            Checks.due("WET behind", keep.cell(0, 2, 1), 8);
        }
        TideKeep level = Checks.on("beach 1 1; sand 2;" + FIRM, "wave 0 1 2;");
        level.pass(1);
        Checks.due("a height that is not above", level.sum(1), 0);
    }

    private static void wavesAtStones() {
        TideKeep keep = Checks.on("beach 1 4; sand 2; stone 0 1;" + FIRM, "wave 0 2 9;");
        keep.pass(1);
        int[] wet = {16, 8, 16, 8};
        for (int y = 0; y < 4; y++) {
            Checks.due("WET of y " + y, keep.cell(0, y, 1), wet[y]);
        }
        TideKeep end = Checks.on("beach 1 2; sand 9; stone 0 1;" + FIRM, "wave 0 8 9;");
        end.pass(1);
        Checks.due("no cell behind", end.cell(0, 1, 1), 8);
        TideKeep corners = Checks.on("beach 8 8; sand 2; stone 0 7; stone 7 7;" + FIRM, "wave 0 8 9;");
        corners.pass(1);
        Checks.due("no cell behind the last row", corners.cell(0, 7, 1) * 100 + corners.cell(7, 7, 1), 808);
        TideKeep beyond = Checks.on("beach 1 3; sand 2; stone 0 1;" + FIRM, "wave 0 1 9;");
        beyond.pass(1);
        Checks.due("a stone beyond the reach", beyond.cell(0, 2, 1), 8);
        TideKeep high = Checks.on("beach 1 2; sand 9; stone 0 0;" + FIRM, "wave 0 2 1;");
        high.pass(1);
        Checks.due("a high stone is not cut", high.sum(1), 0);
        Checks.due("behind it", high.cell(0, 1, 1), 16);
    }

    private static void wavesInOrder() {
        TideKeep keep = Checks.on("beach 1 2; sand 2;" + FIRM, "wave 0 2 1; wave 0 2 1; wave 0 2 1; cut 1;");
        keep.pass(1);
        Checks.dueHeights(keep, " 1 1");
        Checks.due("WAVES", keep.sum(6), 3);
        Checks.due("LOST", keep.sum(1), 2);
    }

    private static void sun() {
        TideKeep keep = Checks.on("beach 2 2; sand 9; heap 1 1 1; stone 0 1; hump 8 20 0; damp 3; dry 3;", "");
        keep.pass(2);
        Checks.due("not yet", keep.cell(1, 1, 1), 3);
        keep.pass(1);
        Checks.due("y 0", keep.cell(0, 0, 1), 3);
        Checks.due("under a stone", keep.cell(0, 1, 1), 2);
        Checks.due("a height of 10", keep.cell(1, 1, 1), 1);
        keep.pass(3);
        Checks.due("0 at least", keep.cell(1, 1, 1), 0);
        Checks.due("a height of 9", keep.cell(0, 1, 1), 1);
        keep.pass(6);
        Checks.due("0 at least", keep.cell(0, 1, 1), 0);
    }

    private static void slides() {
        TideKeep keep = Checks.on("beach 3 1; sand 0; heap 5 1 0;" + LOOSE, "");
        keep.pass(1);
        Checks.dueHeights(keep, " 2 2 1");
        Checks.due("UNITS", keep.sum(3), 3);
        Checks.due("in the latest MINUTE", keep.sum(4), 3);
        Checks.due("ROUNDS", keep.sum(5), 3);
        keep.pass(1);
        Checks.due("UNITS in all", keep.sum(3), 3);
        Checks.due("none slides now", keep.sum(4) + keep.sum(5), 0);
        TideKeep least = Checks.on("beach 3 3; sand 0; heap 2 1 1;" + LOOSE, "");
        least.pass(1);
        Checks.dueHeights(least, " 0 1 0 0 1 0 0 0 0");
        TideKeep lowest = Checks.on("beach 3 3; sand 1; heap 3 1 1; heap 1 1 0; heap 1 0 1; heap 1 2 1;" + LOOSE, "");
        lowest.pass(1);
        Checks.due("the lowest", lowest.cell(1, 2, 0) > 1 ? 1 : 0, 1);
        TideKeep edge = Checks.on("beach 2 1; sand 0; heap 4 0 0; hump 8 3 0; damp 8; dry 60; pack 0;", "");
        edge.pass(1);
        Checks.dueHeights(edge, " 4 0");
        TideKeep beyond = Checks.on("beach 2 1; sand 0; heap 5 0 0; hump 8 3 0; damp 8; dry 60; pack 0;", "");
        beyond.pass(1);
        Checks.dueHeights(beyond, " 4 1");
    }

    private static void slidesWetAndPack() {
        TideKeep keep = Checks.on("beach 2 1; sand 1; heap 2 0 0; hump 15 0 0; damp 4; dry 60; pack 0;", "");
        Checks.plan(keep, "hand pack 0 0 rest; hand pack 1 0 rest; hand wet 0 0;");
        keep.work(0);
        keep.pass(1);
        Checks.dueHeights(keep, " 2 2");
        Checks.due("WET", keep.cell(1, 0, 1), (4 + 8) / 2);
        Checks.due("PACK of the one stays", keep.cell(0, 0, 2), 1);
        Checks.due("PACK of the other", keep.cell(1, 0, 2), 0);
        TideKeep packed = Checks.on("beach 2 1; sand 1; heap 3 0 0; hump 15 0 0; damp 4; dry 60; pack 2;", "");
        Checks.plan(packed, "hand pack 0 0;");
        packed.work(0);
        packed.pass(1);
        Checks.dueHeights(packed, " 4 1");
    }

    private static void slidesBesideStones() {
        TideKeep keep = Checks.on("beach 3 1; sand 0; heap 3 1 0; stone 0 0;" + LOOSE, "");
        keep.pass(1);
        Checks.dueHeights(keep, " 0 2 1");
        TideKeep under = Checks.on("beach 3 1; sand 0; heap 9 1 0; stone 1 0;" + LOOSE, "");
        under.pass(1);
        Checks.dueHeights(under, " 0 9 0");
        TideKeep between = Checks.on("beach 3 1; sand 0; heap 9 1 0; stone 0 0; stone 2 0;" + LOOSE, "");
        between.pass(1);
        Checks.dueHeights(between, " 0 9 0");
    }

    private static void fiftyRounds() {
        TideKeep keep = Checks.on("beach 8 1; sand 0; heap 40 0 0; heap 19 0 0; heap 40 1 0; heap 19 1 0;" + LOOSE, "");
        keep.pass(1);
        Checks.due("ROUNDS", keep.sum(5), 50);
        keep.pass(1);
        Checks.due("ROUNDS go on", keep.sum(5) > 0 ? 1 : 0, 1);
        Checks.due("fewer", keep.sum(5) < 50 ? 1 : 0, 1);
        Checks.due("in all", keep.sum(3) > keep.sum(4) ? 1 : 0, 1);
    }

    private static void flags() {
        TideKeep keep = Checks.on("beach 3 1; sand 3; heap 2 2 0; fall 1; flag 0 0; flag 2 0;" + FIRM,
            "wave 2 1 3; wave 4 1 3; wave 6 1 0; cut 1;");
        int[][] want = {{1, 0, 3, -1}, {1, 2, 5, -1}};
        dueFlags(keep, want);
        keep.pass(3);
        Checks.dueHeights(keep, " 3 3 4");
        dueFlags(keep, want);
        keep.pass(2);
        Checks.dueHeights(keep, " 3 3 3");
        dueFlags(keep, new int[][] {{1, 0, 3, -1}, {0, 2, 5, 4}});
        keep.pass(9);
        dueFlags(keep, new int[][] {{1, 0, 3, -1}, {0, 2, 5, 4}});
        Checks.due("another flag", keep.flag(2, 0), TideKeep.RANGE);
        Checks.due("another flag", keep.flag(-1, 0), TideKeep.RANGE);
        Checks.due("another what", keep.flag(0, 4), TideKeep.RANGE);
        Checks.due("another what", keep.flag(0, -1), TideKeep.RANGE);
        TideKeep again = Checks.on("beach 2 1; sand 3; fall 0; flag 0 0;" + FIRM, "");
        Checks.plan(again, "hand dig 0 0 1 0 dig 1 0 0 0;");
        again.work(0);
        again.pass(2);
        Checks.dueHeights(again, " 3 3");
        Checks.due("it doesn't stand up again", again.flag(0, 0), 0);
        Checks.due("when it fell", again.flag(0, 3), 0);
    }

    private static void dueFlags(TideKeep keep, int[][] want) {
        for (int k = 0; k < want.length; k++) {
            for (int what = 0; what < 4; what++) {
                Checks.due("flag(" + k + ", " + what + ")", keep.flag(k, what), want[k][what]);
            }
        }
    }

    private static void cells() {
        TideKeep keep = Checks.on("beach 3 2; sand 5; damp 6; hump 4 9 2; pack 3; stone 2 1; heap 7 1 1;", "");
        Checks.plan(keep, "hand pack 1 1;");
        keep.work(0);
        keep.pass(1);
        int[] want = {12, 6, 1, 0, 1 + 9 - 2 * 2 + 3};
        for (int what = 0; what < 5; what++) {
            Checks.due("cell(1, 1, " + what + ")", keep.cell(1, 1, what), want[what]);
        }
        Checks.due("a stone", keep.cell(2, 1, 3), 1);
        int[][] wrong = {{3, 0, 0}, {-1, 0, 0}, {0, 2, 0}, {0, -1, 0}, {0, 0, 5}, {0, 0, -1}};
        for (int[] call : wrong) {
            Checks.due("a wrong cell", keep.cell(call[0], call[1], call[2]), TideKeep.RANGE);
        }
    }

    private static void sums() {
        TideKeep keep = Checks.on("beach 2 1; sand 6; heap 3 0 0;" + FIRM, "wave 0 1 7; wave 1 1 0; cut 2;");
        Checks.due("HEIGHTS", keep.sum(0), 15);
        keep.pass(2);
        Checks.due("HEIGHTS", keep.sum(0), 15 - 2 - 4);
        Checks.due("LOST", keep.sum(1), 6);
        Checks.due("the minute", keep.sum(2), 2);
        Checks.due("WAVES", keep.sum(6), 2);
        Checks.due("sum(7)", keep.sum(7), TideKeep.NONE);
        Checks.due("sum(-1)", keep.sum(-1), TideKeep.NONE);
    }

    private static void keepAndTake() {
        TideKeep keep = Checks.on("beach 3 2; sand 3; heap 6 1 1; flag 1 1; fall 0; tire 2; dry 2; damp 5; pack 1;",
            "wave 3 2 1; tide 0 99 1 60; reach 1 2; level 1 4; cut 1;");
        Checks.plan(keep, "hand dig 0 0 1 1 pack 1 1 wall 2 1; hand wet 1 1 rest;");
        Checks.due("keep(3)", keep.keep(3), TideKeep.RANGE);
        Checks.due("keep(-1)", keep.keep(-1), TideKeep.RANGE);
        Checks.due("take(3)", keep.take(3), TideKeep.RANGE);
        Checks.due("take(-1)", keep.take(-1), TideKeep.RANGE);
        Checks.due("take of an empty slot", keep.take(2), TideKeep.STATE);
        keep.work(0);
        keep.chance(99);
        keep.pass(2);
        Checks.due("keep(0)", keep.keep(0), 2);
        keep.pass(7);
        Checks.due("keep(2)", keep.keep(2), 9);
        long later = print(keep);
        keep.work(TideKeep.NONE);
        keep.pass(4);
        Checks.due("take(0)", keep.take(0), 2);
        Checks.due("the plan that holds", keep.told(23), 0);
        keep.pass(7);
        Checks.due("all goes as before", print(keep), later);
        keep.pass(3);
        Checks.due("take(2)", keep.take(2), 9);
        Checks.due("all is as before", print(keep), later);
        Checks.due("take(1)", keep.take(1), TideKeep.STATE);
        Checks.due("take(0) again", keep.take(0), 2);
    }

    /** One number for all that can be seen. */
    private static long print(TideKeep keep) {
        long print = 7;
        for (int what = 0; what <= 6; what++) {
            print = print * 31 + keep.sum(what);
        }
        for (int y = 0; y < keep.told(1); y++) {
            for (int x = 0; x < keep.told(0); x++) {
                for (int what = 0; what <= 4; what++) {
                    print = print * 31 + keep.cell(x, y, what);
                }
            }
        }
        return print * 31 + keep.flag(0, 3);
    }
}
