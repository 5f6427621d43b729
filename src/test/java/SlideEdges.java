/** Edges of THE SUN, of SLIDES and of FLAGS that fall; of flag(). */
final class SlideEdges {
    private static final String FIRM = "hump 8 20 0; damp 8; dry 60; pack 0;";
    // Sand that holds 1, and sand that holds 3.
    private static final String LOOSE = "hump 8 0 0; damp 8; dry 60; pack 0;";
    private static final String THREE = "hump 8 2 0; damp 8; dry 60; pack 0;";

    private SlideEdges() {
    }

    static void all() {
        sun();
        slides();
        Edges.edge("Terms II", "A FLAG falls, if HEIGHT of its CELL is less than it was when it was put up, less fall",
            SlideEdges::falls);
        Edges.edge("Promise 15", "Of a FLAG, what 0: 1 if it stands, else 0, 1: its CELL, 2: HEIGHT when it was put up",
            SlideEdges::flag);
        Edges.edge("Promise 15", "3: the minute in which it fell (NONE)", SlideEdges::minuteOfFall);
        Edges.edge("Promise 15", "3: the minute in which it fell (NONE); RANGE", SlideEdges::wrongFlag);
    }

    private static void sun() {
        Edges.edge("Terms II", "THE SUN: if the minute and 1 is a multiple of dry", SlideEdges::dryMinutes);
        Edges.edge("Terms II", "each CELL but those of y 0 has WET one less", SlideEdges::notAtTheSea);
        Edges.edge("Terms II", "(two, if its HEIGHT is 10 or more)", SlideEdges::tenOrMore);
        Edges.edge("Terms II", "HEIGHT is 10 or more), 0 at least", SlideEdges::zeroAtLeast);
        Edges.edge("Terms II", "(1) HANDS of the PLAN that holds", SlideEdges::orderOfMinute);
    }

    private static void slides() {
        Edges.edge("Terms II", "ROUNDS, at most 50", SlideEdges::fiftyRounds);
        Edges.edge("Terms II", "in each CELLS by numbers", SlideEdges::cellsByNumbers);
        Edges.edge("Terms II", "if it has no STONE: of the CELLS beside it", SlideEdges::underStone);
        Edges.edge("Terms II", "of the CELLS beside it (four at most) that have no STONE the lowest",
            SlideEdges::beside);
        Edges.edge("Terms II", "(of alike ones the least number)", SlideEdges::leastNumber);
        Edges.edge("Terms II", "if its HEIGHT is more than HOLDS above that, a UNIT GOES there",
            SlideEdges::moreThanHolds);
        Edges.edge("Terms II", "They end with a ROUND in which none went", SlideEdges::end);
        Edges.edge("Terms II", "(4) SLIDES: ROUNDS", SlideEdges::eachMinute);
    }

    private static TideKeep behind(String beach, String sea, int minutes) {
        TideKeep keep = Checks.on(beach, sea);
        keep.pass(minutes);
        return keep;
    }

    private static void dryMinutes() {
        for (int dry : new int[] {1, 2, 3, 59, 60}) {
            TideKeep keep = Checks.on("beach 1 2; sand 1; damp 16; dry " + dry + ";", "");
            for (int minutes = 1; minutes <= 16 && dry < 10; minutes++) {
                keep.pass(1);
                Checks.due("dry " + dry + ", behind " + minutes, keep.cell(0, 1, 1), 16 - minutes / dry);
            }
            TideKeep late = behind("beach 1 2; sand 1; damp 16; dry " + dry + ";", "", dry - 1);
            Checks.due("dry " + dry + ", a minute too early", late.cell(0, 1, 1), 16);
            late.pass(1);
            Checks.due("dry " + dry + ", at its minute", late.cell(0, 1, 1), 15);
            late.pass(dry - 1);
            Checks.due("dry " + dry + ", ahead of the next", late.cell(0, 1, 1), 15);
            late.pass(1);
            Checks.due("dry " + dry + ", at the next", late.cell(0, 1, 1), 14);
        }
        TideKeep far = behind("beach 1 2; sand 1; damp 16; dry 60;", "", 360);
        Checks.due("behind 360", far.cell(0, 1, 1), 10);
        far.pass(59);
        Checks.due("behind 419", far.cell(0, 1, 1), 10);
        far.pass(1);
        Checks.due("behind 420", far.cell(0, 1, 1), 9);
    }

    private static void notAtTheSea() {
        TideKeep keep = behind("beach 3 3; sand 1; damp 9; dry 1; stone 1 1;", "", 2);
        for (int x = 0; x < 3; x++) {
            Checks.due("y 0", keep.cell(x, 0, 1), 9);
            Checks.due("y 1, at a stone, too", keep.cell(x, 1, 1), 7);
            Checks.due("y 2", keep.cell(x, 2, 1), 7);
        }
        TideKeep one = behind("beach 3 1; sand 12; damp 9; dry 1;", "", 5);
        for (int x = 0; x < 3; x++) {
            Checks.due("y 0 alone", one.cell(x, 0, 1), 9);
        }
    }

    private static void tenOrMore() {
        int[] heights = {0, 1, 8, 9, 10, 11, 40};
        int[] wet = {7, 7, 7, 7, 6, 6, 6};
        for (int i = 0; i < heights.length; i++) {
            TideKeep keep = behind("beach 1 2; damp 8; dry 1; hump 8 20 0; sand " + heights[i] + ";", "", 1);
            Checks.due("WET of HEIGHT " + heights[i], keep.cell(0, 1, 1), wet[i]);
            Checks.due("at y 0", keep.cell(0, 0, 1), 8);
        }
        TideKeep heaped = behind("beach 1 3; damp 8; dry 1; hump 8 20 0; sand 9; heap 1 0 2;", "", 1);
        Checks.due("9 and 10", heaped.cell(0, 1, 1) * 10 + heaped.cell(0, 2, 1), 76);
    }

    private static void zeroAtLeast() {
        int[][] wets = {{0, 0, 0}, {1, 0, 0}, {2, 1, 0}, {3, 2, 1}};
        for (int[] wet : wets) {
            String text = "beach 1 2; dry 1; hump 8 20 0; damp " + wet[0] + ";";
            Checks.due("WET " + wet[0] + " of a low cell", behind(text + "sand 9;", "", 1).cell(0, 1, 1), wet[1]);
            Checks.due("WET " + wet[0] + " of a high cell", behind(text + "sand 10;", "", 1).cell(0, 1, 1), wet[2]);
            Checks.due("WET " + wet[0] + " much later", behind(text + "sand 10;", "", 9).cell(0, 1, 1), 0);
        }
    }

    /** Hands, waves, the sun, slides and flags come one behind another in a minute. */
    private static void orderOfMinute() {
        TideKeep hands = Checks.on("beach 1 2; sand 3; dry 60; damp 8; hump 8 20 0;", "wave 0 1 3; cut 2;");
        Checks.plan(hands, "hand dig 0 1 0 0;");
        hands.work(0);
        hands.pass(1);
        Checks.dueHeights(hands, " 2 2");
        TideKeep sun = behind("beach 1 2; sand 1; damp 3; dry 1;", "wave 0 2 9;", 1);
        Checks.due("the sun is behind the waves", sun.cell(0, 1, 1), 15);
        String weak = "beach 1 2; sand 0; heap 4 0 1; hump 1 5 0; damp 1; pack 0; fall 0; flag 0 1; dry ";
        TideKeep slides = behind(weak + "1;", "", 1);
        Checks.dueHeights(slides, " 2 2");
        Checks.due("slides are behind the sun, flags behind slides", slides.flag(0, 3), 0);
        TideKeep none = behind(weak + "2;", "", 1);
        Checks.dueHeights(none, " 0 4");
        Checks.due("no sun, no slides", none.flag(0, 0), 1);
        TideKeep cut = behind("beach 1 2; sand 4; fall 1; flag 0 0;" + LOOSE, "wave 0 1 3; cut 4;", 1);
        Checks.dueHeights(cut, " 2 2");
        Checks.due("two units slid back, which is not enough", cut.flag(0, 3), 0);
        TideKeep saved = behind("beach 1 2; sand 4; fall 2; flag 0 0;" + LOOSE, "wave 0 1 3; cut 4;", 1);
        Checks.due("the flag is looked at behind the slides", saved.flag(0, 0), 1);
    }

    /** Rounds of slides in one row, told once more. */
    static int[] slidRow(int[] row, int holds, int rounds) {
        for (int round = 0; round < rounds; round++) {
            for (int i = 0; i < row.length; i++) {
                int left = i > 0 ? row[i - 1] : Integer.MAX_VALUE;
                int right = i + 1 < row.length ? row[i + 1] : Integer.MAX_VALUE;
                int low = Math.min(left, right);
                if (row[i] > low + holds) {
                    row[i]--;
                    row[left == low ? i - 1 : i + 1]++;
                }
            }
        }
        return row;
    }

    private static void fiftyRounds() {
        String beach = "beach 8 1; sand 0; heap 40 0 0; heap 19 0 0; heap 40 1 0; heap 19 1 0;" + LOOSE;
        TideKeep keep = Checks.on(beach, "");
        int[] row = {59, 59, 0, 0, 0, 0, 0, 0};
        for (int minute = 0; minute < 3; minute++) {
            keep.pass(1);
            row = slidRow(row, 1, 50);
            for (int x = 0; x < 8; x++) {
                Checks.due("HEIGHT at " + x + " behind minute " + minute, keep.cell(x, 0, 0), row[x]);
            }
            if (minute == 0) {
                Checks.due("ROUNDS", keep.sum(5), 50);
                Checks.due("it goes on", keep.cell(0, 0, 0) - keep.cell(1, 0, 0) > 1
                    || keep.cell(1, 0, 0) - keep.cell(2, 0, 0) > 1 ? 1 : 0, 1);
            }
        }
        keep.pass(1);
        Checks.due("at rest", keep.sum(4) + keep.sum(5), 0);
    }

    private static void cellsByNumbers() {
        TideKeep keep = behind("beach 3 1; sand 0; heap 3 0 0; heap 1 1 0;" + LOOSE, "", 1);
        Checks.dueHeights(keep, " 2 1 1");
        Checks.due("UNITS", keep.sum(4), 2);
        Checks.due("in a single ROUND", keep.sum(5), 1);
        TideKeep back = behind("beach 3 1; sand 0; heap 1 1 0; heap 3 2 0;" + LOOSE, "", 1);
        Checks.dueHeights(back, " 1 1 2");
        Checks.due("the other way round in two", back.sum(5), 2);
        TideKeep rows = behind("beach 1 3; sand 0; heap 3 0 0; heap 1 0 1;" + LOOSE, "", 1);
        Checks.dueHeights(rows, " 2 1 1");
        Checks.due("in a single ROUND", rows.sum(5), 1);
        TideKeep square = behind("beach 2 2; sand 0; heap 3 1 0; stone 1 1;" + LOOSE, "", 1);
        Checks.dueHeights(square, " 1 2 0 0");
    }

    private static void underStone() {
        TideKeep keep = behind("beach 3 3; sand 0; heap 9 1 1; stone 1 1;" + LOOSE, "", 3);
        Checks.dueHeights(keep, " 0 0 0 0 9 0 0 0 0");
        Checks.due("UNITS", keep.sum(3), 0);
        TideKeep walled = Checks.on("beach 2 1; sand 0; heap 9 0 0;" + FIRM.replace("20", "8"), "");
        Checks.plan(walled, "hand wall 0 0; hand dig 0 0 1 0;");
        walled.work(0);
        walled.pass(2);
        Checks.dueHeights(walled, " 9 0");
    }

    private static void beside() {
        String heap = "sand 0; heap 4 1 1;" + THREE;
        Checks.dueHeights(behind("beach 3 3; stone 1 0;" + heap, "", 1), " 0 0 0 1 3 0 0 0 0");
        Checks.dueHeights(behind("beach 3 3; stone 1 0; stone 0 1;" + heap, "", 1), " 0 0 0 0 3 1 0 0 0");
        Checks.dueHeights(behind("beach 3 3; stone 1 0; stone 0 1; stone 2 1;" + heap, "", 1), " 0 0 0 0 3 0 0 1 0");
        Checks.dueHeights(behind("beach 3 3; stone 1 0; stone 0 1; stone 2 1; stone 1 2;" + heap, "", 1),
            " 0 0 0 0 4 0 0 0 0");
        Checks.dueHeights(behind("beach 1 1; sand 40;" + LOOSE, "", 1), " 40");
        // Not beside: across a corner, the end of a row and the start of the next, beyond the beach.
        Checks.dueHeights(behind("beach 2 2; sand 0; heap 9 0 0; stone 1 0; stone 0 1;" + LOOSE, "", 1), " 9 0 0 0");
        Checks.dueHeights(behind("beach 2 2; sand 0; heap 9 1 1; stone 1 0; stone 0 1;" + LOOSE, "", 1), " 0 0 0 9");
        Checks.dueHeights(behind("beach 3 2; sand 0; heap 9 2 0; stone 1 0; stone 2 1;" + LOOSE, "", 1),
            " 0 0 9 0 0 0");
        Checks.dueHeights(behind("beach 3 2; sand 0; heap 9 0 1; stone 0 0; stone 1 1;" + LOOSE, "", 1),
            " 0 0 0 9 0 0");
        TideKeep corner = behind("beach 8 8; sand 0; heap 9 7 7; stone 6 7; stone 7 6; heap 9 0 0; stone 1 0; stone 0 1;"
            + LOOSE, "", 1);
        Checks.due("the corners", corner.cell(7, 7, 0) * 10 + corner.cell(0, 0, 0), 99);
        Checks.due("HEIGHTS together", corner.sum(0), 18);
    }

    private static void leastNumber() {
        String heap = "beach 3 3; sand 0; heap 4 1 1;" + THREE;
        Checks.dueHeights(behind(heap, "", 1), " 0 1 0 0 3 0 0 0 0");
        Checks.dueHeights(behind(heap + "heap 1 1 0;", "", 1), " 0 1 0 1 3 0 0 0 0");
        Checks.dueHeights(behind(heap + "heap 1 1 0;heap 1 0 1;", "", 1), " 0 1 0 1 3 1 0 0 0");
        Checks.dueHeights(behind(heap + "heap 1 1 0;heap 1 0 1;heap 1 2 1;", "", 1), " 0 1 0 1 3 1 0 1 0");
        Checks.dueHeights(behind(heap + "heap 1 1 0;heap 1 2 1;heap 1 1 2;", "", 1), " 0 1 0 1 3 1 0 1 0");
        Checks.dueHeights(behind("beach 3 1; sand 0; heap 4 1 0;" + THREE, "", 1), " 1 3 0");
        Checks.dueHeights(behind("beach 1 3; sand 0; heap 4 0 1;" + THREE, "", 1), " 1 3 0");
    }

    private static void moreThanHolds() {
        Checks.dueHeights(behind("beach 2 1; sand 0; heap 3 0 0;" + THREE, "", 1), " 3 0");
        Checks.dueHeights(behind("beach 2 1; sand 0; heap 4 0 0;" + THREE, "", 1), " 3 1");
        Checks.dueHeights(behind("beach 2 1; sand 0; heap 1 0 0;" + LOOSE, "", 1), " 1 0");
        Checks.dueHeights(behind("beach 2 1; sand 0; heap 2 0 0;" + LOOSE, "", 1), " 1 1");
        Checks.dueHeights(behind("beach 2 1; sand 0; heap 21 1 0;" + FIRM, "", 1), " 0 21");
        Checks.dueHeights(behind("beach 2 1; sand 0; heap 22 1 0;" + FIRM, "", 1), " 1 21");
        packHolds();
        // Wet of 16 and of 0 holds 1 alone, whatever the hump.
        Checks.dueHeights(behind("beach 2 1; sand 0; heap 3 0 0; hump 8 20 0; damp 16; dry 60; pack 0;", "", 1),
            " 2 1");
        Checks.dueHeights(behind("beach 2 1; sand 0; heap 3 0 0; hump 8 20 0; damp 0; dry 60; pack 0;", "", 1), " 2 1");
        Checks.dueHeights(behind("beach 2 1; sand 0; heap 3 0 0; hump 8 20 0; damp 1; dry 60; pack 0;", "", 1), " 3 0");
        Checks.dueHeights(behind("beach 2 1; sand 0; heap 3 0 0; hump 8 20 0; damp 15; dry 60; pack 0;", "", 1),
            " 3 0");
    }

    /** HOLDS of the cell from which it goes counts, its PACK with it. */
    private static void packHolds() {
        String beach = "beach 2 1; sand 0; heap 4 0 0; hump 8 0 0; damp 8; dry 60; pack 3;";
        TideKeep packed = Checks.on(beach, "");
        Checks.plan(packed, "hand pack 0 0;");
        packed.work(0);
        packed.pass(1);
        Checks.dueHeights(packed, " 4 0");
        TideKeep other = Checks.on(beach, "");
        Checks.plan(other, "hand pack 1 0;");
        other.work(0);
        other.pass(1);
        Checks.dueHeights(other, " 2 2");
    }

    private static void end() {
        TideKeep keep = behind("beach 3 1; sand 0; heap 5 1 0;" + LOOSE, "", 1);
        Checks.dueHeights(keep, " 2 2 1");
        Checks.due("UNITS", keep.sum(4), 3);
        Checks.due("ROUNDS in which some did", keep.sum(5), 3);
        keep.pass(1);
        Checks.dueHeights(keep, " 2 2 1");
        Checks.due("none in the next minute", keep.sum(4) + keep.sum(5), 0);
        TideKeep one = behind("beach 2 1; sand 0; heap 2 0 0;" + LOOSE, "", 1);
        Checks.due("a single unit", one.sum(4) * 10 + one.sum(5), 11);
        TideKeep none = behind("beach 2 1; sand 0; heap 1 0 0;" + LOOSE, "", 1);
        Checks.due("none", none.sum(4) * 10 + none.sum(5), 0);
    }

    /** What was at rest slides again in the minute in which something changes, whatever that is. */
    private static void eachMinute() {
        TideKeep soaked = behind("beach 1 2; sand 0; heap 3 0 1; flag 0 1;" + FIRM, "wave 2 2 9;", 2);
        Checks.dueHeights(soaked, " 0 3");
        soaked.pass(1);
        Checks.dueHeights(soaked, " 1 2");
        TideKeep cut = behind("beach 1 2; sand 2; damp 16; dry 60;", "wave 2 1 0; cut 2;", 2);
        Checks.dueHeights(cut, " 2 2");
        cut.pass(1);
        Checks.dueHeights(cut, " 1 1");
        TideKeep dried = behind("beach 1 2; sand 0; heap 3 0 1; hump 8 20 0; damp 1; dry 3; pack 0;", "", 2);
        Checks.dueHeights(dried, " 0 3");
        dried.pass(1);
        Checks.dueHeights(dried, " 1 2");
        String[] acts = {"dig 1 1 0 1", "wet 0 1", "pack 0 1"};
        String[] heights = {" 0 1 3 0", " 0 1 2 1", " 0 1 2 1"};
        for (int i = 0; i < acts.length; i++) {
            // The middle of three: HEIGHT 3 beside 1, and by HOLDS 2 it rests until an act changes that.
            TideKeep keep = Checks.on("beach 2 2; sand 1; heap 2 0 1; stone 0 0; hump 8 1 0; damp 15; dry 60; pack 0;", "");
            Checks.plan(keep, "hand rest rest " + acts[i] + ";");
            keep.work(0);
            keep.pass(2);
            Checks.due("at rest, " + acts[i], keep.sum(3), 0);
            keep.pass(1);
            Checks.due("UNITS behind " + acts[i] + heights[i], keep.sum(3), i == 0 ? 1 : 0);
        }
        TideKeep kept = behind("beach 2 1; sand 0; heap 9 0 0; hump 8 8 0; damp 8; dry 60; pack 0;", "wave 3 1 99;", 2);
        kept.keep(0);
        kept.pass(2);
        Checks.dueHeights(kept, " 5 4");
        kept.take(0);
        Checks.dueHeights(kept, " 9 0");
        kept.pass(1);
        Checks.due("taken, it rests as it did", kept.sum(3), 0);
        kept.pass(1);
        Checks.dueHeights(kept, " 5 4");
    }

    private static void falls() {
        int[] falls = {0, 1, 2, 5, 6, 20};
        int[] minutes = {0, 1, 2, 5, TideKeep.NONE, TideKeep.NONE};
        for (int i = 0; i < falls.length; i++) {
            TideKeep keep = behind("beach 1 1; sand 6; flag 0 0;" + FIRM + "fall " + falls[i] + ";",
                "wave 0 1 0;wave 1 1 0;wave 2 1 0;wave 3 1 0;wave 4 1 0;wave 5 1 0;wave 6 1 0;cut 1;", 9);
            Checks.dueHeights(keep, " 0");
            Checks.due("fall " + falls[i] + ": the minute", keep.flag(0, 3), minutes[i]);
        }
        TideKeep untold = behind("beach 1 1; sand 6; flag 0 0;", "wave 3 1 0; wave 7 1 0; cut 1;", 7);
        Checks.due("one less stands by a fall untold", untold.flag(0, 0), 1);
        untold.pass(1);
        Checks.due("two less falls", untold.flag(0, 0), 0);
        TideKeep grown = Checks.on("beach 2 1; sand 3; fall 0; flag 0 0;" + FIRM, "wave 2 1 3; cut 1;");
        Checks.plan(grown, "hand dig 1 0 0 0 rest rest rest rest rest;");
        grown.work(0);
        grown.pass(5);
        Checks.dueHeights(grown, " 3 2");
        Checks.due("what grew may be lost again", grown.flag(0, 0), 1);
    }

    private static void flag() {
        TideKeep keep = Checks.on("beach 3 2; sand 4; heap 3 2 1; fall 0; flag 2 1; flag 0 0;" + FIRM,
            "wave 1 1 3; cut 1;");
        int[][] up = {{1, 5, 7}, {1, 0, 4}};
        int[][] down = {{1, 5, 7}, {0, 0, 4}};
        for (int k = 0; k < 2; k++) {
            for (int what = 0; what < 3; what++) {
                Checks.due("flag(" + k + ", " + what + ")", keep.flag(k, what), up[k][what]);
            }
        }
        keep.pass(2);
        for (int k = 0; k < 2; k++) {
            for (int what = 0; what < 3; what++) {
                Checks.due("later flag(" + k + ", " + what + ")", keep.flag(k, what), down[k][what]);
            }
        }
        TideKeep bare = Checks.on("beach 1 1; sand 0; flag 0 0; fall 0;", "wave 0 1 0;");
        bare.pass(9);
        Checks.due("on no sand at all it stands", bare.flag(0, 0) * 10 + bare.flag(0, 2), 10);
    }

    private static void minuteOfFall() {
        TideKeep keep = Checks.on("beach 2 1; sand 3; fall 0; flag 0 0; flag 1 0;" + FIRM, "wave 359 1 2; wave 0 1 9;");
        keep.pass(359);
        Checks.due("not yet", keep.flag(0, 3), TideKeep.NONE);
        keep.pass(1);
        Checks.due("in minute 359", keep.flag(0, 3) + keep.flag(1, 3), 718);
        TideKeep again = Checks.on("beach 2 1; sand 3; fall 0; flag 0 0;" + FIRM, "");
        Checks.plan(again, "hand dig 0 0 1 0 dig 1 0 0 0;");
        again.work(0);
        again.pass(1);
        Checks.due("in minute 0", again.flag(0, 3), 0);
        again.pass(1);
        Checks.dueHeights(again, " 3 3");
        Checks.due("it does not stand up again", again.flag(0, 0), 0);
        again.pass(1);
        Checks.due("nor fall again", again.flag(0, 3), 0);
        TideKeep late = Checks.on("beach 2 1; sand 3; fall 0; flag 0 0;" + FIRM, "");
        late.pass(360);
        Checks.plan(late, "hand rest rest dig 0 0 1 0;");
        late.work(0);
        late.pass(3);
        Checks.due("beyond 359", late.flag(0, 3), 362);
    }

    private static void wrongFlag() {
        for (int flags = 0; flags <= 3; flags++) {
            TideKeep keep = Checks.on("flag 0 0;flag 1 0;flag 2 0;".substring(0, 9 * flags), "");
            for (int what = 0; what < 4; what++) {
                int asked = what;
                Edges.refused("a flag more", keep.flag(flags, what));
                Edges.refused("flag -1", keep.flag(-1, what));
                if (flags > 0) {
                    Edges.bounds("flag", k -> keep.flag(k, asked), 0, flags - 1);
                }
            }
        }
        TideKeep keep = Checks.on("flag 0 0;", "");
        Edges.bounds("what", what -> keep.flag(0, what), 0, 3);
    }
}
