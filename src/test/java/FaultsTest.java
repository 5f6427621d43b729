import java.util.Random;

/** Drawn texts, most of them a little wrong: the fault beside the one that the table finds. */
public final class FaultsTest {
    private static final String[] BEACH = {"beach N N", "sand N", "pack N", "dry N", "damp N", "fall N", "tire N",
        "hump N N N", "heap N N N", "stone N N", "flag N N", "heap N N N", "flag N N"};
    private static final String[] SEA = {"wave N N N", "tide N N N N", "reach N N", "level N N", "cut N", "wave N N N", "wave N N N",
        "wave N N N", "wave N N N", "wave N N N", "wave N N N", "wave N N N", "wave N N N", "wave N N N"};
    private static final String[] ACTS = {"dig N N N N", "pack N N", "wet N N", "wall N N", "rest"};
    private static final String[] BLANKS = {" ", " ", " ", "\n", "  ", " \n "};
    private static final String[] ODD = {"", ";", "N", "sand", "hand", "rest", "wave", "abcdefgh", "abcdefghi", "0000",
        "1000", "-1", ".", "\t", "\u00ff", "\u0000", "A", "beach", "cut", "; ;", "007"};

    private final Random random = new Random(5);

    public static void main(String[] args) {
        new FaultsTest().run(args.length > 1 ? Integer.parseInt(args[1]) : 20000);
        Checks.finish("FaultsTest");
    }

    private void run(int texts) {
        int[] kinds = new int[6];
        for (int i = 0; i < texts; i++) {
            TideKeep keep = new TideKeep();
            int columns = 5;
            int rows = 5;
            if (random.nextBoolean()) {
                columns = 1 + random.nextInt(8);
                rows = 1 + random.nextInt(8);
                Checks.beach(keep, "beach " + columns + " " + rows + ";");
            }
            int what = random.nextInt(3);
            String text = text(what);
            int want = PlainFaults.find(text, what, what == 2 ? columns : 5, what == 2 ? rows : 5);
            Checks.put(keep, text);
            int answer = what == 0 ? keep.beach() : what == 1 ? keep.sea() : keep.plan();
            String name = "text " + what + " [" + text + "]";
            Checks.due(name + " kind", keep.fault(0), want / 1000);
            Checks.due(name + " place", keep.fault(1), want == 0 ? -1 : want % 1000);
            Checks.due(name + " answer", answer < 0 ? -1 : 0, want == 0 ? 0 : -1);
            kinds[want / 1000]++;
        }
        System.out.println("texts by kind: " + java.util.Arrays.toString(kinds));
        for (int kind = 0; kind < kinds.length; kind++) {
            Checks.due("enough of kind " + kind, kinds[kind] * 100 > texts ? 1 : 0, 1);
        }
    }

    private String text(int what) {
        StringBuilder text = new StringBuilder();
        boolean isTidy = random.nextBoolean();
        int clauses = random.nextInt(random.nextInt(3) == 0 ? 30 : 6);
        for (int i = 0; i < clauses && text.length() < 700; i++) {
            text.append(what == 2 ? hand() : clause(what == 0 ? BEACH : SEA)).append(" ;").append(blanks());
        }
        String words = text.toString();
        if (!isTidy) {
            words = spoil(words);
        }
        StringBuilder told = new StringBuilder();
        for (int i = 0; i < words.length(); i++) {
            char c = words.charAt(i);
            if (c == 'N') {
                told.append(number(isTidy));
            } else {
                told.append(c == ' ' ? blanks() : String.valueOf(c));
            }
        }
        return told.length() > 880 ? told.substring(0, 880) : told.toString();
    }

    private String clause(String[] clauses) {
        return clauses[random.nextInt(clauses.length)];
    }

    private String hand() {
        StringBuilder hand = new StringBuilder("hand");
        int acts = random.nextInt(4) == 0 ? 9 : 1 + random.nextInt(5);
        for (int i = 0; i < acts; i++) {
            hand.append(" ").append(clause(ACTS));
        }
        return hand.toString();
    }

    private String blanks() {
        return BLANKS[random.nextInt(BLANKS.length)];
    }

    private String number(boolean isTidy) {
        int kind = random.nextInt(isTidy ? 400 : 40);
        if (kind == 0) {
            return String.valueOf(random.nextInt(1000));
        }
        return kind < 6 ? String.valueOf(1 + random.nextInt(40)) : String.valueOf(1 + random.nextInt(3));
    }

    /** Takes a token away or puts an odd one in its place. */
    private String spoil(String text) {
        String[] tokens = text.split(" ");
        tokens[random.nextInt(tokens.length)] = ODD[random.nextInt(ODD.length)];
        String spoilt = String.join(" ", tokens);
        return random.nextInt(4) == 0 ? spoilt.substring(0, random.nextInt(spoilt.length() + 1)) : spoilt;
    }
}
