import java.util.ArrayList;
import java.util.HashMap;
import java.util.HashSet;
import java.util.List;
import java.util.Map;
import java.util.Set;
import java.util.regex.Matcher;
import java.util.regex.Pattern;

/** The first fault of a text, found by a table of what stands behind each word. */
final class PlainFaults {
    private static final Pattern TOKEN = Pattern.compile("[a-z]+|[0-9]+|[^ \n]", Pattern.DOTALL);
    // Behind a word its numbers: a bound is "least-most"; x and y are of a cell, X and Y end a dig, > is from the last one.
    private static final Map<String, String> BEACH = Map.ofEntries(Map.entry("beach", "1-8 1-8"),
        Map.entry("sand", "0-40"), Map.entry("pack", "0-5"), Map.entry("dry", "1-60"), Map.entry("damp", "0-16"),
        Map.entry("fall", "0-20"), Map.entry("tire", "0-20"), Map.entry("hump", "1-15 0-20 0-9"),
        Map.entry("heap", "1-40 x y"), Map.entry("stone", "x y"), Map.entry("flag", "x y"));
    private static final Map<String, String> SEA = Map.of("wave", "0-359 1-8 0-99", "tide", "0-359 >-359 1-60 0-100",
        "reach", "1-8 >-8", "level", "0-99 >-99", "cut", "0-9");
    private static final Map<String, String> ACTS = Map.of("dig", "x y X Y", "pack", "x y", "wet", "x y", "wall", "x y",
        "rest", "");
    private static final Set<String> ONCE = Set.of("beach", "sand", "pack", "dry", "damp", "fall", "tire", "hump",
        "tide", "reach", "level", "cut");

    private final List<String> tokens = new ArrayList<>();
    private final List<Integer> places = new ArrayList<>();
    private final Map<String, Integer> counts = new HashMap<>();
    private final Map<Integer, Integer> heaped = new HashMap<>();
    private final Set<String> taken = new HashSet<>();
    private final int length;
    private int columns;
    private int rows;
    private int at;
    private int kind;
    private int place = -1;

    private PlainFaults(String text, int columns, int rows) {
        this.columns = columns;
        this.rows = rows;
        length = text.length();
        Matcher matcher = TOKEN.matcher(text);
        while (matcher.find()) {
            tokens.add(matcher.group());
            places.add(matcher.start());
        }
    }

    /** KIND times 1000, and PLACE; 0 without a fault. What: 0 a beach, 1 a sea, 2 a plan. */
    static int find(String text, int what, int columns, int rows) {
        PlainFaults faults = new PlainFaults(text, columns, rows);
        while (faults.kind == 0 && faults.at < faults.tokens.size()) {
            if (what == 2) {
                faults.hand();
            } else {
                faults.clause(what == 0 ? BEACH : SEA);
            }
        }
        return faults.kind == 0 ? 0 : faults.kind * 1000 + faults.place;
    }

    private void fault(int faultKind, int token) {
        if (kind == 0) {
            kind = faultKind;
            place = token < places.size() ? places.get(token) : length;
        }
    }

    private String token() {
        return at < tokens.size() ? tokens.get(at) : "";
    }

    private int count(String word) {
        return counts.merge(word, 1, Integer::sum);
    }

    private void clause(Map<String, String> grammar) {
        String word = token();
        if (!grammar.containsKey(word)) {
            fault(1, at);
            return;
        }
        int times = count(word);
        boolean isThing = word.equals("heap") || word.equals("stone") || word.equals("flag");
        if (ONCE.contains(word) && times > 1) {
            fault(3, at);
        }
        if (word.equals("flag") && times > 3 || word.equals("wave") && times > 12) {
            fault(4, at);
        }
        if (word.equals("beach") && counts.containsKey("thing")) {
            fault(5, at);
        }
        at++;
        numbers(word, grammar.get(word));
        if (isThing) {
            count("thing");
        }
        semicolon();
    }

    private void semicolon() {
        if (kind == 0 && !token().equals(";")) {
            fault(1, at);
        }
        at++;
    }

    private void hand() {
        if (!token().equals("hand")) {
            fault(1, at);
            return;
        }
        if (count("hand") > 4) {
            fault(4, at);
        }
        at++;
        for (int acts = 1; kind == 0 && (acts == 1 || !token().equals(";")); acts++) {
            String word = token();
            if (!ACTS.containsKey(word)) {
                fault(1, at);
            } else if (acts > 8) {
                fault(4, at);
            } else {
                at++;
                numbers(word, ACTS.get(word));
            }
        }
        at++;
    }

    private void numbers(String word, String bounds) {
        List<Integer> read = new ArrayList<>();
        for (String bound : bounds.isEmpty() ? new String[0] : bounds.split(" ")) {
            if (kind != 0) {
                return;
            }
            if (!token().matches("[0-9]{1,3}")) {
                fault(1, at);
                return;
            }
            int n = Integer.parseInt(token());
            int before = read.isEmpty() ? 0 : read.get(read.size() - 1);
            if (n < least(bound, before) || n > most(bound)) {
                fault(2, at);
                return;
            }
            read.add(n);
            if (bound.equals("y")) {
                atCell(word, read);
            }
            if (bound.equals("Y") && read.get(0).equals(read.get(2)) && read.get(1).equals(read.get(3))) {
                fault(3, at);
            }
            at++;
        }
        if (word.equals("beach")) {
            columns = read.get(0);
            rows = read.get(1);
        }
    }

    private static int least(String bound, int before) {
        if (bound.length() == 1) {
            return 0;
        }
        return bound.startsWith(">") ? before : Integer.parseInt(bound.split("-")[0]);
    }

    private int most(String bound) {
        if (bound.length() == 1) {
            return bound.equalsIgnoreCase("x") ? columns - 1 : rows - 1;
        }
        return Integer.parseInt(bound.split("-")[1]);
    }

    private void atCell(String word, List<Integer> read) {
        int cell = read.get(read.size() - 1) * 8 + read.get(read.size() - 2);
        if (word.equals("heap") && heaped.merge(cell, read.get(0), Integer::sum) > 59) {
            fault(2, at);
        }
        if ((word.equals("stone") || word.equals("flag")) && !taken.add(word + cell)) {
            fault(3, at);
        }
    }
}
