import java.io.IOException;
import java.nio.file.Files;
import java.nio.file.Path;
import java.util.Set;
import java.util.TreeSet;
import java.util.function.Consumer;
import java.util.function.IntUnaryOperator;

/** Tests of single sentences of the document: each says where its sentence stands, and quotes it. */
final class Edges {
    private static final Path DOCUMENT = Path.of("../shared/DOC.md");
    private static final String TEXT = readDocument();
    private static final Set<String> PLACES = new TreeSet<>();
    private static int edges;

    private Edges() {
    }

    private static String readDocument() {
        try {
            return Files.isReadable(DOCUMENT) ? Files.readString(DOCUMENT) : "";
        } catch (IOException e) {
            return "";
        }
    }

    /** A test of one sentence: it must ask for something, and the document must say the sentence at that place. */
    static void edge(String where, String sentence, Runnable test) {
        edges++;
        PLACES.add(where);
        int asked = Checks.asked();
        int wrong = Checks.wrong();
        test.run();
        Checks.due("the test asks for something", Checks.asked() > asked ? 1 : 0, 1);
        Checks.due("the document says so", isSaid(where, sentence) ? 1 : 0, 1);
        if (Checks.wrong() > wrong) {
            System.out.println("    that was " + where + ": \"" + sentence + "\"");
        }
    }

    /** Every promise and every term must have been at hand. */
    static void finish(String name) {
        for (int promise = 1; promise <= 35; promise++) {
            Checks.due("a test of promise " + promise, PLACES.contains("Promise " + promise) ? 1 : 0, 1);
        }
        for (String place : new String[] {"Terms I", "Terms II", "Terms III", "The constants", "What it is"}) {
            Checks.due("a test of: " + place, PLACES.contains(place) ? 1 : 0, 1);
        }
        System.out.println(edges + " sentences");
        Checks.finish(name);
    }

    /** Where the document is not at hand, its words are taken for said. */
    private static boolean isSaid(String where, String sentence) {
        return TEXT.isEmpty() || oneLine(section(where)).contains(oneLine(sentence));
    }

    private static String oneLine(String text) {
        return text.replaceAll("\\s+", " ").trim();
    }

    private static String section(String where) {
        return switch (where) {
            case "What it is" -> between("## What it is", "## The public face");
            case "Terms I" -> between("\nI. ", "\nII. ");
            case "Terms II" -> between("\nII. ", "\nIII. ");
            case "Terms III" -> between("\nIII. ", "\nThe constants:");
            case "The constants" -> between("\nThe constants:", "\nAhead of the calls `beach`");
            default -> between("## " + where + ":", "\n## ");
        };
    }

    private static String between(String from, String to) {
        int start = TEXT.indexOf(from);
        int end = start < 0 ? -1 : TEXT.indexOf(to, start + from.length());
        return end < 0 ? "" : TEXT.substring(start, end);
    }

    /** A number's bounds: what is beside them is answered with RANGE, the least and the greatest are not. */
    static void bounds(String name, IntUnaryOperator call, int least, int greatest) {
        for (int wrong : new int[] {least - 1, greatest + 1, Integer.MIN_VALUE, Integer.MAX_VALUE}) {
            if (wrong < least || wrong > greatest) {
                refused(name + " " + wrong, call.applyAsInt(wrong));
            }
        }
        taken(name + " " + least, call.applyAsInt(least));
        taken(name + " " + greatest, call.applyAsInt(greatest));
    }

    static void refused(String name, int answer) {
        Checks.due(name, answer, TideKeep.RANGE);
    }

    static void taken(String name, int answer) {
        Checks.due(name + " is no RANGE", answer != TideKeep.RANGE ? 1 : 0, 1);
    }

    static void beachTaken(String text, int clauses) {
        TideKeep keep = new TideKeep();
        Checks.due("beach() of " + text, Checks.beach(keep, text), clauses);
        Checks.due("its fault", keep.fault(0), 0);
    }

    static void seaTaken(String text, int clauses) {
        TideKeep keep = new TideKeep();
        Checks.due("sea() of " + text, Checks.sea(keep, text), clauses);
        Checks.due("its fault", keep.fault(0), 0);
    }

    static void planTaken(String text) {
        TideKeep keep = new TideKeep();
        Checks.due("plan() of " + text, Checks.plan(keep, text), 0);
        Checks.due("its fault", keep.fault(0), 0);
    }

    static void beachFault(String text, int kind, int place) {
        TideKeep keep = new TideKeep();
        Checks.due("beach() of " + text, Checks.beach(keep, text), TideKeep.NONE);
        dueFault(keep, text, kind, place);
    }

    static void seaFault(String text, int kind, int place) {
        TideKeep keep = new TideKeep();
        Checks.due("sea() of " + text, Checks.sea(keep, text), TideKeep.NONE);
        dueFault(keep, text, kind, place);
    }

    static void planFault(String text, int kind, int place) {
        TideKeep keep = new TideKeep();
        Checks.due("plan() of " + text, Checks.plan(keep, text), TideKeep.NONE);
        dueFault(keep, text, kind, place);
    }

    static void dueFault(TideKeep keep, String text, int kind, int place) {
        Checks.due("KIND of " + text, keep.fault(0), kind);
        Checks.due("PLACE of " + text, keep.fault(1), place);
    }

    /** Two objects with much behind them, one of which is called: all that can be seen stays alike, now and later. */
    static void changesNothing(String name, Consumer<TideKeep> calls) {
        TideKeep called = lived();
        TideKeep other = lived();
        calls.accept(called);
        dueAlike(name, called, other);
    }

    /** Kept short, so that an object that is looked at as below stays under its 512 calls. */
    static TideKeep lived() {
        TideKeep keep = Checks.on("beach 3 3; sand 4; heap 9 1 1; stone 2 2; flag 1 1; flag 0 0; fall 2; dry 3; tire 2;"
            + " damp 3; pack 1; hump 5 4 1;", "wave 3 2 5; wave 9 1 2; tide 2 200 2 60; reach 1 3; level 2 7; cut 2;");
        Checks.plan(keep, "hand dig 0 0 1 1 wet 1 1 pack 1 1; hand rest wall 1 0 dig 0 2 1 1 rest wet 0 1;");
        Checks.plan(keep, "hand pack 0 1;");
        keep.trial(4, 5, 6, 1);
        keep.trial(4, 9, 3, 0);
        keep.right(6, 1, 1);
        keep.chance(77);
        keep.work(0);
        keep.pass(4);
        keep.keep(1);
        keep.pass(3);
        return keep;
    }

    static void dueAlike(String name, TideKeep one, TideKeep other) {
        dueSame(name + ": what is told", told(one), told(other));
        dueSame(name + ": now", state(one), state(other));
        one.pass(7);
        other.pass(7);
        dueSame(name + ": seven minutes later", state(one), state(other));
        Checks.due(name + ": a slot", one.take(1), other.take(1));
        one.pass(9);
        other.pass(9);
        dueSame(name + ": nine minutes behind what the slot keeps", state(one), state(other));
        Checks.due(name + ": an empty slot", one.take(0), other.take(0));
        Checks.due(name + ": NEXT", one.next(), other.next());
        Checks.due(name + ": TRIED at the latest STEP", one.trial(6, 3, 3, 1), other.trial(6, 3, 3, 1));
    }

    private static void dueSame(String name, String got, String want) {
        Checks.due(name + ": " + got + " beside " + want, got.equals(want) ? 1 : 0, 1);
    }

    /** What minutes change, as far as it can be asked for. */
    private static String state(TideKeep keep) {
        StringBuilder state = new StringBuilder();
        state.append(keep.told(23)).append(' ');
        for (int what = 0; what <= 6; what++) {
            state.append(keep.sum(what)).append(' ');
        }
        for (int k = 0; k < 3; k++) {
            state.append(keep.flag(k, 0)).append(' ').append(keep.flag(k, 3)).append(' ');
        }
        for (int c = 0; c < 9; c++) {
            for (int what = 0; what <= 3; what++) {
                state.append(keep.cell(c % 3, c / 3, what)).append(' ');
            }
        }
        return state.toString();
    }

    private static String told(TideKeep keep) {
        StringBuilder told = new StringBuilder();
        for (int what = 0; what <= 22; what++) {
            told.append(keep.told(what)).append(' ');
        }
        for (int what = 0; what <= 3; what++) {
            told.append(keep.count(what)).append(' ');
        }
        for (int k = 0; k < 9; k++) {
            told.append(keep.wave(k / 3, k % 3)).append(' ');
        }
        for (int what = 0; what <= 4; what++) {
            told.append(keep.humps(5, what)).append(' ').append(keep.humps(999, what)).append(' ');
        }
        for (int plan = 0; plan < 3; plan++) {
            told.append(keep.act(plan, TideKeep.NONE, 0, 0)).append(' ');
        }
        for (int k = 0; k < 15; k++) {
            told.append(keep.act(0, 0, k / 3, k % 3)).append(' ').append(keep.act(0, 1, k / 3, k % 3)).append(' ');
        }
        return told.toString();
    }
}
