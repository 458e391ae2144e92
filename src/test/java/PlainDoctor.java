import java.util.ArrayDeque;
import java.util.ArrayList;
import java.util.Deque;
import java.util.HashMap;
import java.util.HashSet;
import java.util.List;
import java.util.Map;
import java.util.NoSuchElementException;
import java.util.Set;
import java.util.TreeSet;

/** The document once more, as plainly as can be and at any cost: what RandomRunsTest compares with. */
final class PlainDoctor {
    /** A part of a formula: what it is, its text, its own parts; references are columns and rows. */
    record Node(String what, int number, List<Node> parts, Ref first, Ref second) {
    }

    record Ref(int column, boolean columnFixed, int row, boolean rowFixed) {
        int place() {
            return 12 * row + column;
        }
    }

    record Content(int kind, int number, Node formula, int[] unit) {
    }

    record Past(int place, Content content) {
    }

    record Token(String text, int at) {
    }

    static final class Fault extends RuntimeException {
        private static final long serialVersionUID = 1;
        final int number;

        Fault(int kind, Token token) {
            number = kind + 16 * token.at;
        }
    }

    static final class Wrong extends RuntimeException {
        private static final long serialVersionUID = 1;
        final int error;

        Wrong(int error) {
            this.error = error;
        }
    }

    private static final Content NOTHING = new Content(0, 0, null, new int[3]);

    private StringBuilder tape = new StringBuilder();
    private final Content[] cells = new Content[288];
    private final boolean[] kept = new boolean[288];
    private final Deque<Past> pasts = new ArrayDeque<>();
    private List<int[]> findings = new ArrayList<>();
    private List<int[]> changes = new ArrayList<>();
    private final Map<Integer, int[]> worked = new HashMap<>();

    PlainDoctor() {
        java.util.Arrays.fill(cells, NOTHING);
    }

    // ---- the tape and the formula's text

    int feed(long a, long b, long c) {
        for (long packed : new long[] {a, b, c}) {
            for (int i = 7; i >= 0; i--) {
                int sign = (int) (packed >> 8 * i & 255);
                if (sign >= 32 && sign <= 126 && tape.length() < 120) {
                    tape.append((char) sign);
                }
            }
        }
        return tape.length();
    }

    private List<Token> rest;

    private static List<Token> tokens(String text) {
        List<Token> all = new ArrayList<>();
        java.util.regex.Matcher m = java.util.regex.Pattern.compile("[a-z]+|[0-9]+|[^ ]").matcher(text);
        while (m.find()) {
            all.add(new Token(m.group(), m.start()));
        }
        all.add(new Token("", text.length()));
        return all;
    }

    private Token here() {
        return rest.get(0);
    }

    private Token next() {
        return rest.remove(0);
    }

    private void must(String text) {
        if (!here().text.equals(text)) {
            throw new Fault(1, here());
        }
        next();
    }

    private Node expression(int around) {
        Node left = product(around);
        while (here().text.equals("+") || here().text.equals("-")) {
            String sign = next().text;
            left = new Node(sign, 0, List.of(left, product(around)), null, null);
        }
        return left;
    }

    private Node product(int around) {
        Node left = part(around);
        while (here().text.equals("*") || here().text.equals("/")) {
            String sign = next().text;
            left = new Node(sign, 0, List.of(left, part(around)), null, null);
        }
        return left;
    }

    private Node part(int around) {
        String text = here().text;
        if (!text.matches("[0-9]{1,6}|sum|[a-l]|[$(-]")) {
            throw new Fault(1, here());
        }
        if (around == 8) {
            throw new Fault(5, here());
        }
        if (text.matches("[0-9]+")) {
            return new Node("n", Integer.parseInt(next().text), List.of(), null, null);
        }
        if (text.equals("(")) {
            next();
            Node inner = expression(around + 1);
            must(")");
            return new Node("()", 0, List.of(inner), null, null);
        }
        if (text.equals("-")) {
            next();
            return new Node("neg", 0, List.of(part(around + 1)), null, null);
        }
        if (text.equals("sum")) {
            next();
            must("(");
            Ref first = ref(null);
            must(":");
            Ref second = ref(first);
            must(")");
            return new Node("sum", 0, List.of(), first, second);
        }
        Ref only = ref(null);
        return new Node("ref", 0, List.of(), only, only);
    }

    private Ref ref(Ref first) {
        boolean columnFixed = here().text.equals("$");
        if (columnFixed) {
            next();
        }
        if (!here().text.matches("[a-l]")) {
            throw new Fault(1, here());
        }
        int column = here().text.charAt(0) - 'a';
        if (first != null && column < first.column) {
            throw new Fault(6, here());
        }
        next();
        boolean rowFixed = here().text.equals("$");
        if (rowFixed) {
            next();
        }
        if (!here().text.matches("[0-9]{1,6}")) {
            throw new Fault(1, here());
        }
        int row = Integer.parseInt(here().text) - 1;
        if (row < 0 || row > 23) {
            throw new Fault(4, here());
        }
        if (first != null && row < first.row) {
            throw new Fault(7, here());
        }
        next();
        return new Ref(column, columnFixed, row, rowFixed);
    }

    // ---- what changes the sheet

    private static boolean no(int place) {
        return place < 0 || place > 287;
    }

    private void put(int place, Content content) {
        pasts.push(new Past(place, cells[place]));
        if (pasts.size() > 20) {
            pasts.removeLast();
        }
        cells[place] = content;
    }

    int formula(int place) {
        String text = tape.toString();
        tape = new StringBuilder();
        if (no(place)) {
            return -1;
        }
        rest = tokens(text);
        try {
            Node formula = expression(0);
            must("");
            put(place, new Content(2, 0, formula, new int[3]));
            return 0;
        } catch (Fault fault) {
            return fault.number;
        }
    }

    boolean number(int place, int v) {
        if (no(place)) {
            return false;
        }
        put(place, new Content(1, v, null, new int[3]));
        return true;
    }

    boolean empty(int place) {
        if (no(place)) {
            return false;
        }
        put(place, NOTHING);
        return true;
    }

    private static Ref moved(Ref ref, int columns, int rows) {
        return new Ref(ref.column + (ref.columnFixed ? 0 : columns), ref.columnFixed,
                ref.row + (ref.rowFixed ? 0 : rows), ref.rowFixed);
    }

    /** The formula moved, or null. */
    private static Node moved(Node node, int columns, int rows) {
        if (node.first != null) {
            Ref first = moved(node.first, columns, rows);
            Ref second = moved(node.second, columns, rows);
            for (Ref ref : List.of(first, second)) {
                if (ref.column < 0 || ref.column > 11 || ref.row < 0 || ref.row > 23) {
                    return null;
                }
            }
            return second.column < first.column || second.row < first.row ? null
                    : new Node(node.what, 0, List.of(), first, second);
        }
        List<Node> parts = new ArrayList<>();
        for (Node part : node.parts) {
            Node there = moved(part, columns, rows);
            if (there == null) {
                return null;
            }
            parts.add(there);
        }
        return new Node(node.what, node.number, parts, null, null);
    }

    private Content copied(int from, int to) {
        Content content = cells[from];
        if (content.kind != 2) {
            return new Content(content.kind, content.number, null, new int[3]);
        }
        Node there = moved(content.formula, to % 12 - from % 12, to / 12 - from / 12);
        return there == null ? null : new Content(2, 0, there, new int[3]);
    }

    boolean copy(int from, int to) {
        if (no(from) || no(to) || copied(from, to) == null) {
            return false;
        }
        put(to, copied(from, to));
        return true;
    }

    boolean unit(int place, int a, int b, int c) {
        if (no(place) || cells[place].kind != 1) {
            return false;
        }
        for (int exponent : new int[] {a, b, c}) {
            if (exponent < -4 || exponent > 4) {
                return false;
            }
        }
        cells[place] = new Content(1, cells[place].number, null, new int[] {a, b, c});
        return true;
    }

    boolean keep(int place, boolean yes) {
        if (no(place)) {
            return false;
        }
        kept[place] = yes;
        return true;
    }

    // ---- what is read

    private static void nodes(Node node, List<Node> all) {
        for (Node part : node.parts) {
            nodes(part, all);
        }
        all.add(node);
    }

    private static List<Node> nodes(Node node) {
        List<Node> all = new ArrayList<>();
        nodes(node, all);
        return all;
    }

    private static List<Integer> span(Node node) {
        List<Integer> all = new ArrayList<>();
        for (int row = node.first.row; row <= node.second.row; row++) {
            for (int column = node.first.column; column <= node.second.column; column++) {
                all.add(12 * row + column);
            }
        }
        return all;
    }

    private Set<Integer> reads(int place) {
        Set<Integer> all = new TreeSet<>();
        if (cells[place].kind == 2) {
            for (Node node : nodes(cells[place].formula)) {
                if (node.first != null) {
                    all.addAll(span(node));
                }
            }
        }
        return all;
    }

    private boolean inRing(int place) {
        Set<Integer> seen = new HashSet<>();
        Deque<Integer> open = new ArrayDeque<>(reads(place));
        while (!open.isEmpty()) {
            int one = open.pop();
            if (one == place) {
                return true;
            }
            if (seen.add(one)) {
                open.addAll(reads(one));
            }
        }
        return false;
    }

    // ---- values: {value, error, in a ring} of a place

    private int[] worth(int place) {
        int[] known = worked.get(place);
        if (known == null) {
            known = new int[2];
            if (cells[place].kind == 1) {
                known[0] = cells[place].number;
            } else if (cells[place].kind == 2 && inRing(place)) {
                known[1] = 2;
            } else if (cells[place].kind == 2) {
                try {
                    known[0] = value(cells[place].formula);
                } catch (Wrong wrong) {
                    known[1] = wrong.error;
                }
            }
            worked.put(place, known);
        }
        return known;
    }

    private int value(Node node) {
        if (node.what.equals("n")) {
            return node.number;
        }
        if (node.first != null) {
            int sum = 0;
            for (int place : span(node)) {
                if (worth(place)[1] != 0) {
                    throw new Wrong(worth(place)[1]);
                }
                sum += worth(place)[0];
            }
            return sum;
        }
        int left = value(node.parts.get(0));
        if (node.what.equals("()")) {
            return left;
        }
        if (node.what.equals("neg")) {
            return -left;
        }
        int right = value(node.parts.get(1));
        if (node.what.equals("/") && right == 0) {
            throw new Wrong(1);
        }
        return switch (node.what) {
            case "+" -> left + right;
            case "-" -> left - right;
            case "*" -> left * right;
            default -> (int) ((long) left / right);
        };
    }

    private int[][] worths() {
        worked.clear();
        int[][] all = new int[288][];
        for (int place = 0; place < 288; place++) {
            all[place] = worth(place);
        }
        return all;
    }

    // ---- families

    /** The formula as it looks from its own cell. */
    private static String look(Node node, int home) {
        StringBuilder text = new StringBuilder(node.what).append(node.number);
        if (node.first != null) {
            for (Ref ref : List.of(node.first, node.second)) {
                text.append(ref.columnFixed ? "=" + ref.column : "~" + (ref.column - home % 12));
                text.append(ref.rowFixed ? "=" + ref.row : "~" + (ref.row - home / 12));
            }
        }
        for (Node part : node.parts) {
            text.append('[').append(look(part, home)).append(']');
        }
        return text.toString();
    }

    private int family(int place) {
        if (no(place) || cells[place].kind != 2) {
            return -1;
        }
        String look = look(cells[place].formula, place);
        for (int other = 0; other < place; other++) {
            if (cells[other].kind == 2 && look(cells[other].formula, other).equals(look)) {
                return other;
            }
        }
        return place;
    }

    // ---- units

    private boolean clashing;

    private int[] unitOf(int place) {
        if (cells[place].kind != 2) {
            return cells[place].unit;
        }
        return inRing(place) ? new int[3] : unitOf(cells[place].formula);
    }

    private int[] unitOf(Node node) {
        if (node.what.equals("n")) {
            return new int[3];
        }
        if (node.first != null) {
            int[] unit = null;
            for (int place : span(node)) {
                if (cells[place].kind != 0) {
                    boolean before = clashing;
                    int[] its = unitOf(place);
                    clashing = before;
                    if (unit != null && !java.util.Arrays.equals(unit, its)) {
                        clashing = true;
                    }
                    unit = unit == null ? its : unit;
                }
            }
            return unit == null ? new int[3] : unit;
        }
        int[] left = unitOf(node.parts.get(0));
        if (node.parts.size() == 1) {
            return left;
        }
        int[] right = unitOf(node.parts.get(1));
        int sign = node.what.equals("*") ? 1 : node.what.equals("/") ? -1 : 0;
        if (sign == 0 && !java.util.Arrays.equals(left, right)) {
            clashing = true;
        }
        int[] both = new int[3];
        for (int i = 0; i < 3; i++) {
            both[i] = left[i] + sign * right[i];
        }
        return both;
    }

    private boolean clashes(int place) {
        clashing = false;
        if (cells[place].kind == 2 && !inRing(place)) {
            unitOf(cells[place].formula);
        }
        return clashing;
    }

    // ---- totals

    private boolean isTotal(int place) {
        if (cells[place].kind != 2 || inRing(place)) {
            return false;
        }
        for (Node node : nodes(cells[place].formula)) {
            if (!Set.of("ref", "sum", "+").contains(node.what)) {
                return false;
            }
        }
        return true;
    }

    private long waysInto(int from, int total, Map<Integer, Long> known) {
        if (!known.containsKey(total)) {
            long all = 0;
            for (Node node : nodes(cells[total].formula)) {
                if (node.first != null) {
                    for (int place : span(node)) {
                        all += place == from ? 1 : isTotal(place) ? waysInto(from, place, known) : 0;
                    }
                }
            }
            known.put(total, Math.min(all, 1000));
        }
        return known.get(total);
    }

    int ways(int from, int total) {
        if (no(from) || no(total) || !isTotal(total)) {
            return -1;
        }
        if (cells[from].kind == 0 || isTotal(from)) {
            return 0;
        }
        return (int) Math.min(9, waysInto(from, total, new HashMap<>()));
    }

    // ---- findings

    private int likeNeighbour(int place) {
        if (no(place) || cells[place].kind == 0) {
            return -1;
        }
        for (int step : new int[] {1, 12}) {
            if (step == 1 && (place % 12 == 0 || place % 12 == 11) || no(place - step) || no(place + step)) {
                continue;
            }
            int family = family(place - step);
            if (family != -1 && family == family(place + step) && family != family(place)) {
                return place - step;
            }
        }
        return -1;
    }

    private List<Node> sums(int place) {
        List<Node> all = new ArrayList<>();
        if (!no(place) && cells[place].kind == 2) {
            for (Node node : nodes(cells[place].formula)) {
                if (node.what.equals("sum")) {
                    all.add(node);
                }
            }
        }
        return all;
    }

    private int further(int home, Node sum, boolean down) {
        Ref last = sum.second;
        boolean fits = down ? sum.first.column == last.column && last.row < 23
                : sum.first.row == last.row && last.column < 11;
        int place = last.place() + (down ? 12 : 1);
        if (!fits || place == home) {
            return -1;
        }
        boolean kin = family(place) != -1 && family(place) == family(last.place());
        return cells[place].kind == 1 || kin ? place : -1;
    }

    int check() {
        findings = new ArrayList<>();
        for (int place = 0; place < 288; place++) {
            if (cells[place].kind == 0) {
                continue;
            }
            if (likeNeighbour(place) != -1) {
                findings.add(new int[] {cells[place].kind == 2 ? 1 : 2, place, likeNeighbour(place)});
            }
            for (Node sum : sums(place)) {
                for (boolean down : new boolean[] {true, false}) {
                    if (further(place, sum, down) != -1) {
                        findings.add(new int[] {3, place, further(place, sum, down)});
                    }
                }
            }
            for (int from = 0; from < 288 && isTotal(place); from++) {
                if (ways(from, place) >= 2) {
                    findings.add(new int[] {4, place, from});
                    break;
                }
            }
            if (readers(place) == 0 && !kept[place]) {
                findings.add(new int[] {5, place, -1});
            }
            if (clashes(place)) {
                findings.add(new int[] {6, place, -1});
            }
        }
        return findings.size();
    }

    private int readers(int place) {
        int found = 0;
        for (int other = 0; other < 288; other++) {
            found += reads(other).contains(place) ? 1 : 0;
        }
        return found;
    }

    int finding(int i, int what) {
        return i < 0 || i >= 300 || i >= findings.size() || what < 0 || what > 2 ? -1 : findings.get(i)[what];
    }

    // ---- mends

    private int compare(int[][] before) {
        int[][] after = worths();
        changes = new ArrayList<>();
        for (int place = 0; place < 288; place++) {
            if (!java.util.Arrays.equals(before[place], after[place])) {
                changes.add(new int[] {place, before[place][0], after[place][0], before[place][1], after[place][1]});
            }
        }
        return changes.size();
    }

    int mend(int place) {
        changes = new ArrayList<>();
        int neighbour = likeNeighbour(place);
        if (neighbour == -1 || copied(neighbour, place) == null) {
            return -1;
        }
        int[][] before = worths();
        put(place, copied(neighbour, place));
        return compare(before);
    }

    private static Node replaced(Node node, Node old, Node fresh) {
        if (node == old) {
            return fresh;
        }
        List<Node> parts = new ArrayList<>();
        for (Node part : node.parts) {
            parts.add(replaced(part, old, fresh));
        }
        return new Node(node.what, node.number, parts, node.first, node.second);
    }

    int stretch(int place, int k) {
        changes = new ArrayList<>();
        if (k < 0 || k >= sums(place).size()) {
            return -1;
        }
        Node sum = sums(place).get(k);
        boolean down = further(place, sum, true) != -1;
        if (!down && further(place, sum, false) == -1) {
            return -1;
        }
        int[][] before = worths();
        Ref last = sum.second;
        Ref longer = new Ref(last.column + (down ? 0 : 1), last.columnFixed, last.row + (down ? 1 : 0), last.rowFixed);
        Node fresh = new Node("sum", 0, List.of(), sum.first, longer);
        put(place, new Content(2, 0, replaced(cells[place].formula, sum, fresh), new int[3]));
        return compare(before);
    }

    int changed(int i, int what) {
        return i < 0 || i >= changes.size() || what < 0 || what > 4 ? -1 : changes.get(i)[what];
    }

    int undo() {
        changes = new ArrayList<>();
        if (pasts.isEmpty()) {
            return -1;
        }
        int[][] before = worths();
        Past past = pasts.pop();
        cells[past.place] = past.content;
        return compare(before);
    }

    // ---- what is told

    int cell(int place, int what) {
        if (no(place) || what < 0 || what > 10) {
            throw new NoSuchElementException();
        }
        worked.clear();
        return switch (what) {
            case 0 -> cells[place].kind;
            case 1 -> worth(place)[0];
            case 2 -> worth(place)[1];
            case 3 -> family(place);
            case 7 -> isTotal(place) ? 1 : 0;
            case 8 -> reads(place).size();
            case 9 -> readers(place);
            case 10 -> kept[place] ? 1 : 0;
            default -> unitOf(place)[what - 4];
        };
    }

    int count(int what) {
        int found = 0;
        switch (what) {
            case 4:
                return tape.length();
            case 5:
                return pasts.size();
            case 0:
            case 1:
            case 2:
            case 3:
                int[][] worths = worths();
                for (int place = 0; place < 288; place++) {
                    boolean counts = switch (what) {
                        case 0 -> cells[place].kind == 1;
                        case 1 -> cells[place].kind == 2;
                        case 2 -> family(place) == place;
                        default -> worths[place][1] != 0;
                    };
                    found += counts ? 1 : 0;
                }
                return found;
            default:
                return -1;
        }
    }
}
