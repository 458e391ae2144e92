import java.util.Arrays;
import java.util.NoSuchElementException;

/**
 * Worksheet doctor: a sheet of numbers and formulas whose odd cells, typed numbers, short spans,
 * double sums, dead cells and clashing units are found, and whose mends show what they change.
 */
public final class SheetDoctor {
    public static final int NONE = -1;

    private static final int COLUMNS = 12;
    private static final int ROWS = 24;
    private static final int PLACES = COLUMNS * ROWS;
    private static final int TAPE_SIGNS = 120;

    private static final int EMPTY = 0;
    private static final int NUMBER = 1;
    private static final int FORMULA = 2;

    private static final int ZERO = 1;
    private static final int RING = 2;

    private static final int ODD = 1;
    private static final int TYPED = 2;
    private static final int SHORT = 3;
    private static final int TWICE = 4;
    private static final int DEAD = 5;
    private static final int CLASH = 6;

    private static final int MOST_WAYS = 9;
    private static final int MOST_EXPONENT = 4;

    /** A set of places is a row of this many longs. */
    private static final int WORDS = (PLACES + 63) / 64;

    /** Eight parts within one another never leave more than 17 operands open. */
    private static final int OPEN_OPERANDS = 32;

    private final Tape tape;
    private final Sheet sheet;
    private final Links links;
    private final Values values;
    private final Families families;
    private final Units units;
    private final Totals totals;
    private final Findings findings;
    private final Changes changes;

    public SheetDoctor() {
        tape = new Tape();
        sheet = new Sheet();
        links = new Links(sheet);
        values = new Values(sheet, links);
        families = new Families(sheet);
        units = new Units(sheet, links);
        totals = new Totals(sheet, links);
        findings = new Findings(sheet, links, families, units, totals);
        changes = new Changes(values);
    }

    public int feed(long a, long b, long c) {
        tape.append(a);
        tape.append(b);
        tape.append(c);
        return tape.length;
    }

    public int formula(int place) {
        if (!onSheet(place)) {
            tape.length = 0;
            return NONE;
        }
        Formula formula = tape.read(place);
        tape.length = 0;
        if (formula == null) {
            return tape.fault;
        }
        sheet.put(place, new Cell(FORMULA, 0, formula));
        return 0;
    }

    public boolean number(int place, int v) {
        if (!onSheet(place)) {
            return false;
        }
        sheet.put(place, new Cell(NUMBER, v, null));
        return true;
    }

    public boolean empty(int place) {
        if (!onSheet(place)) {
            return false;
        }
        sheet.put(place, sheet.blank);
        return true;
    }

    public boolean copy(int from, int to) {
        if (!onSheet(from) || !onSheet(to)) {
            return false;
        }
        Cell copied = sheet.copyFor(from, to);
        if (copied == null) {
            return false;
        }
        sheet.put(to, copied);
        return true;
    }

    public boolean unit(int place, int a, int b, int c) {
        if (sheet.kindAt(place) != NUMBER) {
            return false;
        }
        if (!isExponent(a) || !isExponent(b) || !isExponent(c)) {
            return false;
        }
        sheet.replace(place, new Cell(sheet.at(place).number, a, b, c));
        return true;
    }

    public boolean keep(int place, boolean yes) {
        return sheet.setKept(place, yes);
    }

    public int check() {
        families.settle();
        units.settle();
        totals.settle();
        return findings.gather();
    }

    public int finding(int i, int what) {
        return findings.tell(i, what);
    }

    public int mend(int place) {
        changes.forget();
        families.settle();
        int neighbour = families.neighbourToCopy(place);
        if (neighbour == NONE) {
            return NONE;
        }
        Cell copied = sheet.copyFor(neighbour, place);
        if (copied == null) {
            return NONE;
        }
        values.settle();
        changes.remember();
        sheet.put(place, copied);
        values.settle();
        return changes.compare();
    }

    public int stretch(int place, int k) {
        changes.forget();
        Formula longer = stretchedFormula(place, k);
        if (longer == null) {
            return NONE;
        }
        values.settle();
        changes.remember();
        sheet.put(place, new Cell(FORMULA, 0, longer));
        values.settle();
        return changes.compare();
    }

    public int changed(int i, int what) {
        return changes.tell(i, what);
    }

    public int undo() {
        changes.forget();
        if (sheet.depth == 0) {
            return NONE;
        }
        values.settle();
        changes.remember();
        sheet.takeBack();
        values.settle();
        return changes.compare();
    }

    public int cell(int place, int what) throws NoSuchElementException {
        if (!onSheet(place) || what < 0 || what > 10) {
            throw new NoSuchElementException("no such cell, or nothing of that number to tell");
        }
        switch (what) {
            case 0:
                return sheet.kindAt(place);
            case 1:
                values.settle();
                return values.valueAt(place);
            case 2:
                values.settle();
                return values.errorAt(place);
            case 3:
                families.settle();
                return families.familyAt(place);
            case 4:
            case 5:
            case 6:
                units.settle();
                return units.exponentAt(place, what - 4);
            case 7:
                totals.settle();
                return totals.isTotal(place) ? 1 : 0;
            case 8:
                links.settle();
                return links.cellsReadBy(place);
            case 9:
                links.settle();
                return links.readersOf(place);
            default:
                return sheet.isKept(place) ? 1 : 0;
        }
    }

    public int ways(int from, int total) {
        if (!onSheet(from) || !onSheet(total)) {
            return NONE;
        }
        totals.settle();
        return totals.isTotal(total) ? totals.waysInto(from, total) : NONE;
    }

    public int count(int what) {
        switch (what) {
            case 0:
                return sheet.cellsOfKind(NUMBER);
            case 1:
                return sheet.cellsOfKind(FORMULA);
            case 2:
                families.settle();
                return families.size;
            case 3:
                values.settle();
                return values.errors();
            case 4:
                return tape.length;
            case 5:
                return sheet.depth;
            default:
                return NONE;
        }
    }

    private Formula stretchedFormula(int place, int k) {
        Formula formula = sheet.formulaAt(place);
        if (formula == null) {
            return null;
        }
        families.settle();
        int step = formula.stepOfSum(k);
        if (findings.shortBelow(place, formula, step) != NONE) {
            return formula.stretched(step, 1, 0);
        }
        if (findings.shortRight(place, formula, step) != NONE) {
            return formula.stretched(step, 0, 1);
        }
        return null;
    }

    private static boolean onSheet(int place) {
        return place >= 0 && place < PLACES;
    }

    private static boolean isExponent(int exponent) {
        return exponent >= -MOST_EXPONENT && exponent <= MOST_EXPONENT;
    }

    private static boolean hasBit(long[] rows, int row, int place) {
        if (!onSheet(row) || !onSheet(place)) {
            return false;
        }
        return (rows[row * WORDS + place / 64] >>> (place % 64) & 1L) != 0;
    }

    private static void setBit(long[] rows, int row, int place) {
        if (onSheet(row) && onSheet(place)) {
            rows[row * WORDS + place / 64] |= 1L << (place % 64);
        }
    }

    /**
     * A formula, kept as steps in the order of its working: the operands first, then what joins them.
     * What is not fixed is kept as a distance from the formula's own cell, its home, so that a copy
     * is the very same formula at another home, and formulas of one family are equal step by step.
     */
    private static final class Formula {
        static final int CONSTANT = 0;
        static final int REF = 1;
        static final int SUM = 2;
        /** Works out nothing, but (a1) and a1 are not of one family. */
        static final int BRACKETS = 3;
        static final int NEGATE = 4;
        static final int ADD = 5;
        static final int SUBTRACT = 6;
        static final int MULTIPLY = 7;
        static final int DIVIDE = 8;

        /** Distances may be negative; with this added they fit the bits of a packed reference. */
        private static final int SHIFTED = 32;
        private static final int PART_SIZE = 64;
        private static final int ROW_FIXED = PART_SIZE;
        private static final int ONE_COLUMN = 2 * PART_SIZE;
        private static final int COLUMN_FIXED = ONE_COLUMN * PART_SIZE;

        private final int[] steps;
        /** The constant, or the first reference of what is read. */
        private final int[] first;
        /** The last reference of what is read: of a single one that again, a span of one cell. */
        private final int[] last;

        Formula(int[] steps, int[] first, int[] last, int size) {
            int length = size < 0 ? 0 : size;
            this.steps = Arrays.copyOf(steps, length);
            this.first = Arrays.copyOf(first, length);
            this.last = Arrays.copyOf(last, length);
        }

        static int reference(int place, boolean columnFixed, boolean rowFixed, int home) {
            int column = place % COLUMNS;
            int row = place / COLUMNS;
            int packed = 0;
            packed += columnFixed ? COLUMN_FIXED + column * ONE_COLUMN
                    : (column - home % COLUMNS + SHIFTED) * ONE_COLUMN;
            packed += rowFixed ? ROW_FIXED + row : row - home / COLUMNS + SHIFTED;
            return packed;
        }

        static int columnOf(int reference, int home) {
            int column = reference / ONE_COLUMN % PART_SIZE;
            return reference >= COLUMN_FIXED ? column : column - SHIFTED + home % COLUMNS;
        }

        static int rowOf(int reference, int home) {
            int row = reference % PART_SIZE;
            return reference / ROW_FIXED % 2 == 1 ? row : row - SHIFTED + home / COLUMNS;
        }

        int size() {
            return steps.length;
        }

        int stepAt(int i) {
            return i >= 0 && i < steps.length ? steps[i] : NONE;
        }

        int constantAt(int i) {
            return i >= 0 && i < first.length ? first[i] : 0;
        }

        boolean readsAt(int i) {
            int step = stepAt(i);
            return step == REF || step == SUM;
        }

        int left(int i, int home) {
            return i >= 0 && i < first.length ? columnOf(first[i], home) : NONE;
        }

        int top(int i, int home) {
            return i >= 0 && i < first.length ? rowOf(first[i], home) : NONE;
        }

        int right(int i, int home) {
            return i >= 0 && i < last.length ? columnOf(last[i], home) : NONE;
        }

        int bottom(int i, int home) {
            return i >= 0 && i < last.length ? rowOf(last[i], home) : NONE;
        }

        /** Writes the places that a step reads, row by row, and tells how many there are. */
        int listPlaces(int i, int home, int[] places) {
            int found = 0;
            int left = left(i, home);
            int right = right(i, home);
            int bottom = bottom(i, home);
            for (int row = top(i, home); row <= bottom; row++) {
                for (int column = left; column <= right && found < places.length; column++) {
                    places[found] = row * COLUMNS + column;
                    found++;
                }
            }
            return found;
        }

        /** The step of the k-th sum( ); the steps keep the order in which the text has them. */
        int stepOfSum(int k) {
            int seen = 0;
            for (int i = 0; i < steps.length; i++) {
                if (steps[i] == SUM) {
                    if (seen == k) {
                        return i;
                    }
                    seen++;
                }
            }
            return NONE;
        }

        boolean isOfReadsAndPlus() {
            for (int i = 0; i < steps.length; i++) {
                if (steps[i] != REF && steps[i] != SUM && steps[i] != ADD) {
                    return false;
                }
            }
            return true;
        }

        boolean isKinOf(Formula other) {
            if (other.steps.length != steps.length) {
                return false;
            }
            for (int i = 0; i < steps.length; i++) {
                if (steps[i] != other.steps[i] || first[i] != other.first[i] || last[i] != other.last[i]) {
                    return false;
                }
            }
            return true;
        }

        boolean fits(int home) {
            for (int i = 0; i < steps.length; i++) {
                if (readsAt(i) && !spanFits(i, home)) {
                    return false;
                }
            }
            return true;
        }

        private boolean spanFits(int i, int home) {
            return left(i, home) >= 0 && left(i, home) <= right(i, home) && right(i, home) < COLUMNS
                    && top(i, home) >= 0 && top(i, home) <= bottom(i, home) && bottom(i, home) < ROWS;
        }

        Formula stretched(int step, int rows, int columns) {
            Formula longer = new Formula(steps, first, last, steps.length);
            if (step >= 0 && step < longer.last.length) {
                longer.last[step] += rows + columns * ONE_COLUMN;
            }
            return longer;
        }
    }

    /** What stands in a cell; it never changes, so that places and what is taken back can share it. */
    private static final class Cell {
        final int kind;
        final int number;
        final Formula formula;
        final int unitA;
        final int unitB;
        final int unitC;

        Cell(int kind, int number, Formula formula) {
            this.kind = kind;
            this.number = number;
            this.formula = formula;
            this.unitA = 0;
            this.unitB = 0;
            this.unitC = 0;
        }

        Cell(int number, int unitA, int unitB, int unitC) {
            this.kind = NUMBER;
            this.number = number;
            this.formula = null;
            this.unitA = unitA;
            this.unitB = unitB;
            this.unitC = unitC;
        }

        boolean fits(int home) {
            return formula == null || formula.fits(home);
        }

        /** A unit is told of one cell: it does not go along to where the number is put anew. */
        Cell withoutUnit() {
            return kind == NUMBER ? new Cell(NUMBER, number, null) : this;
        }
    }

    /** The cells, which of them are kept, and what can be taken back. */
    private static final class Sheet {
        private static final int DEEPEST = 20;

        final Cell blank;
        private final Cell[] cells;
        private final boolean[] kept;
        private final int[] pastPlaces;
        private final Cell[] pastCells;
        int depth;
        /** Another one after each change: what is derived is worked out anew only when it is asked for. */
        int version;

        Sheet() {
            blank = new Cell(EMPTY, 0, null);
            cells = new Cell[PLACES];
            for (int place = 0; place < PLACES; place++) {
                cells[place] = blank;
            }
            kept = new boolean[PLACES];
            pastPlaces = new int[DEEPEST];
            pastCells = new Cell[DEEPEST];
            for (int i = 0; i < DEEPEST; i++) {
                pastCells[i] = blank;
            }
            depth = 0;
            version = 0;
        }

        Cell at(int place) {
            return onSheet(place) ? cells[place] : blank;
        }

        int kindAt(int place) {
            return onSheet(place) ? cells[place].kind : EMPTY;
        }

        Formula formulaAt(int place) {
            return onSheet(place) ? cells[place].formula : null;
        }

        /** What a copy puts to the other place, or null where it can't be. */
        Cell copyFor(int from, int to) {
            Cell cell = at(from);
            return cell.fits(to) ? cell.withoutUnit() : null;
        }

        boolean isKept(int place) {
            return onSheet(place) && kept[place];
        }

        boolean setKept(int place, boolean yes) {
            if (!onSheet(place)) {
                return false;
            }
            kept[place] = yes;
            return true;
        }

        int cellsOfKind(int kind) {
            int found = 0;
            for (int place = 0; place < PLACES; place++) {
                if (cells[place].kind == kind) {
                    found++;
                }
            }
            return found;
        }

        void replace(int place, Cell cell) {
            if (onSheet(place)) {
                cells[place] = cell;
                version++;
            }
        }

        void put(int place, Cell cell) {
            if (depth >= DEEPEST) {
                forgetOldest();
            }
            pastPlaces[depth] = place;
            pastCells[depth] = at(place);
            depth++;
            replace(place, cell);
        }

        private void forgetOldest() {
            for (int i = 1; i < DEEPEST; i++) {
                pastPlaces[i - 1] = pastPlaces[i];
                pastCells[i - 1] = pastCells[i];
            }
            depth = DEEPEST - 1;
        }

        void takeBack() {
            if (depth > 0 && depth <= DEEPEST) {
                depth--;
                replace(pastPlaces[depth], pastCells[depth]);
            }
        }
    }

    /** The tape, and how its text is read as a formula, or its fault found. */
    private static final class Tape {
        private static final int END = 0;
        private static final int WORD = 'w';
        private static final int DIGITS = 'n';
        private static final int STRANGE = '?';

        private static final int SUM_WORD = 26;
        private static final int OTHER_WORD = 27;
        private static final int LONGEST_WORD = 3;
        private static final int LONGEST_NUMBER = 6;
        private static final int DEEPEST_PART = 8;

        private static final int MISPLACED = 1;
        private static final int NO_ROW = 4;
        private static final int TOO_DEEP = 5;
        private static final int LEFT_OF_FIRST = 6;
        private static final int ABOVE_FIRST = 7;

        private final char[] text;
        int length;
        private int home;
        /** The tokens: of a sign the kind is the sign itself. */
        private final int[] kinds;
        private final int[] amounts;
        private final int[] starts;
        private int tokens;
        private int token;
        int fault;
        private final int[] steps;
        private final int[] first;
        private final int[] last;
        private int size;

        Tape() {
            text = new char[TAPE_SIGNS];
            length = 0;
            kinds = new int[TAPE_SIGNS + 1];
            amounts = new int[TAPE_SIGNS + 1];
            starts = new int[TAPE_SIGNS + 1];
            steps = new int[TAPE_SIGNS];
            first = new int[TAPE_SIGNS];
            last = new int[TAPE_SIGNS];
        }

        void append(long eightSigns) {
            for (int shift = 56; shift >= 0; shift -= 8) {
                int sign = (int) (eightSigns >>> shift) & 255;
                if (sign >= 32 && sign <= 126 && length < TAPE_SIGNS) {
                    text[length] = (char) sign;
                    length++;
                }
            }
        }

        /** The formula as it is at that place, or null where there is a fault. */
        Formula read(int place) {
            home = place;
            size = 0;
            fault = 0;
            findTokens();
            token = 0;
            if (!sum(0)) {
                return null;
            }
            if (kind() != END) {
                wrong(MISPLACED);
                return null;
            }
            return new Formula(steps, first, last, size);
        }

        private void findTokens() {
            tokens = 0;
            int end = 0;
            for (int start = 0; start < length; start = end) {
                end = Math.max(start + 1, endOfToken(start));
                if (text[start] != ' ') {
                    addToken(kindOf(start, end), start, end);
                }
            }
            addToken(END, length, length);
        }

        private int endOfToken(int start) {
            int end = start + 1;
            if (isLetter(text[start])) {
                while (end < length && isLetter(text[end])) {
                    end++;
                }
            } else if (isDigit(text[start])) {
                while (end < length && isDigit(text[end])) {
                    end++;
                }
            }
            return end;
        }

        private int kindOf(int start, int end) {
            char sign = text[start];
            if (isLetter(sign)) {
                return end - start <= LONGEST_WORD ? WORD : STRANGE;
            }
            if (isDigit(sign)) {
                return end - start <= LONGEST_NUMBER ? DIGITS : STRANGE;
            }
            return "()+-*/:$".indexOf(sign) >= 0 ? sign : STRANGE;
        }

        private void addToken(int kind, int start, int end) {
            if (tokens <= TAPE_SIGNS) {
                kinds[tokens] = kind;
                starts[tokens] = start;
                amounts[tokens] = kind == WORD ? wordAmount(start, end)
                        : kind == DIGITS ? digitsAmount(start, end) : 0;
                tokens++;
            }
        }

        private int wordAmount(int start, int end) {
            if (end - start == 1) {
                return text[start] - 'a';
            }
            boolean isSum = end - start == 3
                    && text[start] == 's' && text[start + 1] == 'u' && text[start + 2] == 'm';
            return isSum ? SUM_WORD : OTHER_WORD;
        }

        private int digitsAmount(int start, int end) {
            int amount = 0;
            for (int i = start; i < end; i++) {
                amount = amount * 10 + (text[i] - '0');
            }
            return amount;
        }

        private static boolean isLetter(char sign) {
            return sign >= 'a' && sign <= 'z';
        }

        private static boolean isDigit(char sign) {
            return sign >= '0' && sign <= '9';
        }

        private int kind() {
            return token >= 0 && token < tokens ? kinds[token] : END;
        }

        private int amount() {
            return token >= 0 && token < tokens ? amounts[token] : 0;
        }

        private boolean wrong(int faultKind) {
            int start = token >= 0 && token < tokens ? starts[token] : length;
            fault = faultKind + 16 * start;
            return false;
        }

        private void add(int step, int from, int to) {
            if (size < TAPE_SIGNS) {
                steps[size] = step;
                first[size] = from;
                last[size] = to;
                size++;
            }
        }

        private boolean sum(int depth) {
            if (!product(depth)) {
                return false;
            }
            for (int i = 0; i < TAPE_SIGNS && (kind() == '+' || kind() == '-'); i++) {
                int step = kind() == '+' ? Formula.ADD : Formula.SUBTRACT;
                token++;
                if (!product(depth)) {
                    return false;
                }
                add(step, 0, 0);
            }
            return true;
        }

        private boolean product(int depth) {
            if (!part(depth)) {
                return false;
            }
            for (int i = 0; i < TAPE_SIGNS && (kind() == '*' || kind() == '/'); i++) {
                int step = kind() == '*' ? Formula.MULTIPLY : Formula.DIVIDE;
                token++;
                if (!part(depth)) {
                    return false;
                }
                add(step, 0, 0);
            }
            return true;
        }

        /** The depth is the number of parts around this one. */
        private boolean part(int depth) {
            if (!startsPart()) {
                return wrong(MISPLACED);
            }
            if (depth >= DEEPEST_PART) {
                return wrong(TOO_DEEP);
            }
            switch (kind()) {
                case '(':
                    return brackets(depth);
                case '-':
                    return negated(depth);
                case DIGITS:
                    add(Formula.CONSTANT, amount(), 0);
                    token++;
                    return true;
                default:
                    return kind() == WORD && amount() == SUM_WORD ? span() : single();
            }
        }

        private boolean startsPart() {
            if (kind() == WORD) {
                return amount() < COLUMNS || amount() == SUM_WORD;
            }
            return kind() == DIGITS || kind() == '(' || kind() == '-' || kind() == '$';
        }

        private boolean brackets(int depth) {
            token++;
            if (!sum(depth + 1) || !take(')')) {
                return false;
            }
            add(Formula.BRACKETS, 0, 0);
            return true;
        }

        private boolean negated(int depth) {
            token++;
            if (!part(depth + 1)) {
                return false;
            }
            add(Formula.NEGATE, 0, 0);
            return true;
        }

        private boolean single() {
            int reference = reference(0, 0);
            if (reference == NONE) {
                return false;
            }
            add(Formula.REF, reference, reference);
            return true;
        }

        private boolean span() {
            token++;
            if (!take('(')) {
                return false;
            }
            int from = reference(0, 0);
            if (from == NONE || !take(':')) {
                return false;
            }
            int to = reference(Formula.columnOf(from, home), Formula.rowOf(from, home));
            if (to == NONE || !take(')')) {
                return false;
            }
            add(Formula.SUM, from, to);
            return true;
        }

        private boolean take(int sign) {
            if (kind() != sign) {
                return wrong(MISPLACED);
            }
            token++;
            return true;
        }

        private int reference(int leastColumn, int leastRow) {
            boolean columnFixed = kind() == '$';
            token += columnFixed ? 1 : 0;
            int column = amount();
            int columnFault = columnFault(kind(), column, leastColumn);
            if (columnFault != 0) {
                wrong(columnFault);
                return NONE;
            }
            token++;
            boolean rowFixed = kind() == '$';
            token += rowFixed ? 1 : 0;
            int row = amount() - 1;
            int rowFault = rowFault(kind(), row, leastRow);
            if (rowFault != 0) {
                wrong(rowFault);
                return NONE;
            }
            token++;
            return Formula.reference(row * COLUMNS + column, columnFixed, rowFixed, home);
        }

        private static int columnFault(int kind, int column, int leastColumn) {
            if (kind != WORD || column >= COLUMNS) {
                return MISPLACED;
            }
            return column < leastColumn ? LEFT_OF_FIRST : 0;
        }

        private static int rowFault(int kind, int row, int leastRow) {
            if (kind != DIGITS) {
                return MISPLACED;
            }
            if (row < 0 || row >= ROWS) {
                return NO_ROW;
            }
            return row < leastRow ? ABOVE_FIRST : 0;
        }
    }

    /** Who reads whom, which formulas are in a ring, and an order in which all can be worked out. */
    private static final class Links {
        private final Sheet sheet;
        private final int[] formulas;
        private int formulaCount;
        private final long[] formulaSet;
        private final long[] reads;
        private final long[] reach;
        private final boolean[] ring;
        /** How many formulas a formula reads that are not in the order yet. */
        private final int[] waiting;
        private final int[] order;
        private int ordered;
        private final int[] span;
        private int version;

        Links(Sheet sheet) {
            this.sheet = sheet;
            formulas = new int[PLACES];
            formulaSet = new long[WORDS];
            reads = new long[PLACES * WORDS];
            reach = new long[PLACES * WORDS];
            ring = new boolean[PLACES];
            waiting = new int[PLACES];
            order = new int[PLACES];
            span = new int[PLACES];
            version = NONE;
        }

        void settle() {
            if (version == sheet.version) {
                return;
            }
            version = sheet.version;
            forgetReads();
            gatherReads();
            ordered = 0;
            for (int i = 0; i < formulaCount; i++) {
                int place = formulas[i];
                waiting[place] = formulasReadBy(place);
                if (waiting[place] == 0) {
                    appendToOrder(place);
                }
            }
            release(0);
            if (ordered < formulaCount) {
                int free = ordered;
                findRings();
                release(free);
            }
        }

        boolean inRing(int place) {
            return onSheet(place) && ring[place];
        }

        int orderSize() {
            return ordered;
        }

        int inOrder(int i) {
            return i >= 0 && i < ordered && i < PLACES ? order[i] : NONE;
        }

        int cellsReadBy(int place) {
            int found = 0;
            if (onSheet(place)) {
                for (int word = 0; word < WORDS; word++) {
                    found += Long.bitCount(reads[place * WORDS + word]);
                }
            }
            return found;
        }

        int readersOf(int place) {
            int found = 0;
            for (int i = 0; i < formulaCount; i++) {
                if (hasBit(reads, formulas[i], place)) {
                    found++;
                }
            }
            return found;
        }

        private void forgetReads() {
            for (int i = 0; i < formulaCount; i++) {
                for (int word = 0; word < WORDS; word++) {
                    reads[formulas[i] * WORDS + word] = 0L;
                }
            }
            for (int word = 0; word < WORDS; word++) {
                formulaSet[word] = 0L;
            }
            formulaCount = 0;
        }

        private void gatherReads() {
            for (int place = 0; place < PLACES; place++) {
                ring[place] = false;
                waiting[place] = 0;
                Formula formula = sheet.formulaAt(place);
                if (formula != null && formulaCount < PLACES) {
                    formulas[formulaCount] = place;
                    formulaCount++;
                    setBit(formulaSet, 0, place);
                    gatherReadsOf(place, formula);
                }
            }
        }

        private void gatherReadsOf(int home, Formula formula) {
            for (int i = 0; i < formula.size(); i++) {
                int cells = formula.readsAt(i) ? formula.listPlaces(i, home, span) : 0;
                for (int k = 0; k < cells && k < PLACES; k++) {
                    setBit(reads, home, span[k]);
                }
            }
        }

        private int formulasReadBy(int place) {
            int found = 0;
            for (int word = 0; word < WORDS; word++) {
                found += Long.bitCount(reads[place * WORDS + word] & formulaSet[word]);
            }
            return found;
        }

        private void appendToOrder(int place) {
            if (ordered < PLACES) {
                order[ordered] = place;
                ordered++;
            }
        }

        /** Each formula of the order from there on frees those that waited for it alone. */
        private void release(int from) {
            for (int done = from; done < ordered && done < PLACES; done++) {
                for (int i = 0; i < formulaCount; i++) {
                    int reader = formulas[i];
                    if (waiting[reader] > 0 && hasBit(reads, reader, order[done])) {
                        waiting[reader]--;
                        if (waiting[reader] == 0) {
                            appendToOrder(reader);
                        }
                    }
                }
            }
        }

        /** What still waits is in a ring or reads one; a ring's formulas wait for nobody any more. */
        private void findRings() {
            System.arraycopy(reads, 0, reach, 0, reads.length);
            for (int k = 0; k < formulaCount; k++) {
                if (waiting[formulas[k]] > 0) {
                    reachThrough(formulas[k]);
                }
            }
            for (int i = 0; i < formulaCount; i++) {
                int place = formulas[i];
                if (waiting[place] > 0 && hasBit(reach, place, place)) {
                    ring[place] = true;
                    waiting[place] = 0;
                    appendToOrder(place);
                }
            }
        }

        private void reachThrough(int middle) {
            for (int i = 0; i < formulaCount; i++) {
                int place = formulas[i];
                if (waiting[place] > 0 && hasBit(reach, place, middle)) {
                    for (int word = 0; word < WORDS; word++) {
                        reach[place * WORDS + word] |= reach[middle * WORDS + word];
                    }
                }
            }
        }
    }

    /** The cells' values and errors. */
    private static final class Values {
        private final Sheet sheet;
        private final Links links;
        private final int[] value;
        private final int[] error;
        private final int[] span;
        private final int[] open;
        private int openCount;
        /** The first error of the formula that is worked out. */
        private int wrong;
        private int version;

        Values(Sheet sheet, Links links) {
            this.sheet = sheet;
            this.links = links;
            value = new int[PLACES];
            error = new int[PLACES];
            span = new int[PLACES];
            open = new int[OPEN_OPERANDS];
            version = NONE;
        }

        void settle() {
            if (version == sheet.version) {
                return;
            }
            version = sheet.version;
            links.settle();
            for (int place = 0; place < PLACES; place++) {
                value[place] = sheet.at(place).number;
                error[place] = 0;
            }
            for (int i = 0; i < links.orderSize(); i++) {
                int place = links.inOrder(i);
                Formula formula = sheet.formulaAt(place);
                if (onSheet(place) && formula != null) {
                    workOut(place, formula);
                }
            }
        }

        int valueAt(int place) {
            return onSheet(place) ? value[place] : 0;
        }

        int errorAt(int place) {
            return onSheet(place) ? error[place] : 0;
        }

        int errors() {
            int found = 0;
            for (int place = 0; place < PLACES; place++) {
                if (error[place] != 0) {
                    found++;
                }
            }
            return found;
        }

        private void workOut(int home, Formula formula) {
            wrong = links.inRing(home) ? RING : 0;
            openCount = 0;
            for (int i = 0; i < formula.size() && wrong == 0; i++) {
                int step = formula.stepAt(i);
                if (step == Formula.CONSTANT) {
                    push(formula.constantAt(i));
                } else if (formula.readsAt(i)) {
                    push(spanSum(home, formula, i));
                } else if (step == Formula.NEGATE) {
                    push(-pop());
                } else if (step != Formula.BRACKETS) {
                    join(step);
                }
            }
            value[home] = wrong == 0 ? pop() : 0;
            error[home] = wrong;
        }

        private int spanSum(int home, Formula formula, int i) {
            int sum = 0;
            int cells = formula.listPlaces(i, home, span);
            for (int k = 0; k < cells && k < PLACES && wrong == 0; k++) {
                wrong = errorAt(span[k]);
                sum += valueAt(span[k]);
            }
            return sum;
        }

        private void join(int step) {
            int right = pop();
            int left = pop();
            switch (step) {
                case Formula.ADD:
                    push(left + right);
                    break;
                case Formula.SUBTRACT:
                    push(left - right);
                    break;
                case Formula.MULTIPLY:
                    push(left * right);
                    break;
                default:
                    push(quotient(left, right));
                    break;
            }
        }

        private int quotient(int left, int right) {
            if (right == 0) {
                wrong = ZERO;
                return 0;
            }
            return left / right;
        }

        private void push(int operand) {
            if (openCount < OPEN_OPERANDS) {
                open[openCount] = operand;
                openCount++;
            }
        }

        private int pop() {
            if (openCount <= 0) {
                return 0;
            }
            openCount--;
            return open[openCount];
        }
    }

    /** Which formulas are copies of one another, and the cells that do not go with their neighbours. */
    private static final class Families {
        private final Sheet sheet;
        private final int[] family;
        /** Of each family its first one, and how many families there are. */
        private final int[] eldest;
        int size;
        private int version;

        Families(Sheet sheet) {
            this.sheet = sheet;
            family = new int[PLACES];
            eldest = new int[PLACES];
            version = NONE;
        }

        void settle() {
            if (version == sheet.version) {
                return;
            }
            version = sheet.version;
            size = 0;
            for (int place = 0; place < PLACES; place++) {
                Formula formula = sheet.formulaAt(place);
                family[place] = formula == null ? NONE : familyOf(place, formula);
            }
        }

        private int familyOf(int place, Formula formula) {
            for (int i = 0; i < size; i++) {
                Formula other = sheet.formulaAt(eldest[i]);
                if (other != null && other.isKinOf(formula)) {
                    return eldest[i];
                }
            }
            if (size < PLACES) {
                eldest[size] = place;
                size++;
            }
            return place;
        }

        int familyAt(int place) {
            return onSheet(place) ? family[place] : NONE;
        }

        boolean areKin(int one, int other) {
            return onSheet(one) && onSheet(other) && family[one] != NONE && family[one] == family[other];
        }

        /** Of an odd or typed cell the neighbour that it should be a copy of, else none. */
        int neighbourToCopy(int place) {
            if (sheet.kindAt(place) == EMPTY) {
                return NONE;
            }
            int column = place % COLUMNS;
            if (column > 0 && column < COLUMNS - 1 && isStranger(place, place - 1, place + 1)) {
                return place - 1;
            }
            return isStranger(place, place - COLUMNS, place + COLUMNS) ? place - COLUMNS : NONE;
        }

        private boolean isStranger(int place, int before, int behind) {
            return areKin(before, behind) && !areKin(before, place);
        }
    }

    /** The cells' units, and the formulas that join units which are not the same. */
    private static final class Units {
        private static final int PARTS = 3;

        private final Sheet sheet;
        private final Links links;
        private final int[] exponents;
        private final boolean[] clash;
        private final int[] span;
        private final int[] open;
        private int openCount;
        private boolean clashing;
        private int version;

        Units(Sheet sheet, Links links) {
            this.sheet = sheet;
            this.links = links;
            exponents = new int[PLACES * PARTS];
            clash = new boolean[PLACES];
            span = new int[PLACES];
            open = new int[OPEN_OPERANDS * PARTS];
            version = NONE;
        }

        void settle() {
            if (version == sheet.version) {
                return;
            }
            version = sheet.version;
            links.settle();
            for (int place = 0; place < PLACES; place++) {
                Cell cell = sheet.at(place);
                exponents[place * PARTS] = cell.unitA;
                exponents[place * PARTS + 1] = cell.unitB;
                exponents[place * PARTS + 2] = cell.unitC;
                clash[place] = false;
            }
            for (int i = 0; i < links.orderSize(); i++) {
                int place = links.inOrder(i);
                Formula formula = sheet.formulaAt(place);
                if (onSheet(place) && formula != null && !links.inRing(place)) {
                    workOut(place, formula);
                }
            }
        }

        int exponentAt(int place, int part) {
            return onSheet(place) && part >= 0 && part < PARTS ? exponents[place * PARTS + part] : 0;
        }

        boolean clashesAt(int place) {
            return onSheet(place) && clash[place];
        }

        private void workOut(int home, Formula formula) {
            clashing = false;
            openCount = 0;
            for (int i = 0; i < formula.size(); i++) {
                int step = formula.stepAt(i);
                if (step == Formula.CONSTANT) {
                    pushUnitOf(NONE);
                } else if (formula.readsAt(i)) {
                    pushUnitOf(firstFilled(home, formula, i));
                } else if (step != Formula.NEGATE && step != Formula.BRACKETS) {
                    join(step);
                }
            }
            for (int part = 0; part < PARTS; part++) {
                exponents[home * PARTS + part] = openCount == 1 ? open[part] : 0;
            }
            clash[home] = clashing;
        }

        /** The first cell of a span that is not empty; the others are held against it on the way. */
        private int firstFilled(int home, Formula formula, int i) {
            int filled = NONE;
            int cells = formula.listPlaces(i, home, span);
            for (int k = 0; k < cells && k < PLACES; k++) {
                if (sheet.kindAt(span[k]) != EMPTY) {
                    if (filled == NONE) {
                        filled = span[k];
                    } else if (!areSame(filled, span[k])) {
                        clashing = true;
                    }
                }
            }
            return filled;
        }

        private boolean areSame(int one, int other) {
            for (int part = 0; part < PARTS; part++) {
                if (exponentAt(one, part) != exponentAt(other, part)) {
                    return false;
                }
            }
            return true;
        }

        private void pushUnitOf(int place) {
            if (openCount < OPEN_OPERANDS) {
                for (int part = 0; part < PARTS; part++) {
                    open[openCount * PARTS + part] = exponentAt(place, part);
                }
                openCount++;
            }
        }

        private void join(int step) {
            if (openCount < 2) {
                return;
            }
            openCount--;
            for (int part = 0; part < PARTS; part++) {
                int left = (openCount - 1) * PARTS + part;
                int right = openCount * PARTS + part;
                if (step == Formula.MULTIPLY) {
                    open[left] += open[right];
                } else if (step == Formula.DIVIDE) {
                    open[left] -= open[right];
                } else if (open[left] != open[right]) {
                    clashing = true;
                }
            }
        }
    }

    /** The totals, and the ways of other cells into them. */
    private static final class Totals {
        private final Sheet sheet;
        private final Links links;
        private final boolean[] total;
        private final int[] found;
        private final int[] span;
        /** For each total the cells with a way or more into it, and those with two or more. */
        private final long[] once;
        private final long[] twice;
        private int version;

        Totals(Sheet sheet, Links links) {
            this.sheet = sheet;
            this.links = links;
            total = new boolean[PLACES];
            found = new int[PLACES];
            span = new int[PLACES];
            once = new long[PLACES * WORDS];
            twice = new long[PLACES * WORDS];
            version = NONE;
        }

        void settle() {
            if (version == sheet.version) {
                return;
            }
            version = sheet.version;
            links.settle();
            for (int place = 0; place < PLACES; place++) {
                Formula formula = sheet.formulaAt(place);
                total[place] = formula != null && formula.isOfReadsAndPlus() && !links.inRing(place);
            }
        }

        boolean isTotal(int place) {
            return onSheet(place) && total[place];
        }

        int waysInto(int from, int into) {
            if (isTotal(from) || sheet.kindAt(from) == EMPTY || !onSheet(into)) {
                return 0;
            }
            for (int i = 0; i < links.orderSize(); i++) {
                int place = links.inOrder(i);
                Formula formula = sheet.formulaAt(place);
                if (isTotal(place) && formula != null) {
                    found[place] = waysThrough(from, place, formula);
                }
            }
            return found[into];
        }

        private int waysThrough(int from, int home, Formula formula) {
            int sum = 0;
            for (int i = 0; i < formula.size(); i++) {
                int cells = formula.readsAt(i) ? formula.listPlaces(i, home, span) : 0;
                for (int k = 0; k < cells && k < PLACES; k++) {
                    sum = Math.min(MOST_WAYS, sum + waysBy(from, span[k]));
                }
            }
            return sum;
        }

        private int waysBy(int from, int read) {
            if (read == from) {
                return 1;
            }
            return isTotal(read) ? found[read] : 0;
        }

        /** All totals at once, as sets of cells: asking cell by cell would cost far more. */
        void gatherTwice() {
            for (int i = 0; i < links.orderSize(); i++) {
                int place = links.inOrder(i);
                Formula formula = sheet.formulaAt(place);
                if (isTotal(place) && formula != null) {
                    forgetTwiceOf(place);
                    gatherTwiceOf(place, formula);
                }
            }
        }

        private void forgetTwiceOf(int home) {
            for (int word = 0; word < WORDS; word++) {
                once[home * WORDS + word] = 0L;
                twice[home * WORDS + word] = 0L;
            }
        }

        private void gatherTwiceOf(int home, Formula formula) {
            for (int i = 0; i < formula.size(); i++) {
                int cells = formula.readsAt(i) ? formula.listPlaces(i, home, span) : 0;
                for (int k = 0; k < cells && k < PLACES; k++) {
                    addRead(home, span[k]);
                }
            }
        }

        private void addRead(int into, int read) {
            if (isTotal(read)) {
                addWaysOf(into, read);
            } else if (sheet.kindAt(read) != EMPTY) {
                if (hasBit(once, into, read)) {
                    setBit(twice, into, read);
                }
                setBit(once, into, read);
            }
        }

        private void addWaysOf(int into, int read) {
            if (!onSheet(into) || !onSheet(read)) {
                return;
            }
            for (int word = 0; word < WORDS; word++) {
                int mine = into * WORDS + word;
                int its = read * WORDS + word;
                twice[mine] |= twice[its] | (once[mine] & once[its]);
                once[mine] |= once[its];
            }
        }

        int leastTwice(int into) {
            if (!isTotal(into)) {
                return NONE;
            }
            for (int place = 0; place < PLACES; place++) {
                if (hasBit(twice, into, place)) {
                    return place;
                }
            }
            return NONE;
        }
    }

    /** The findings of the latest check. */
    private static final class Findings {
        private static final int MOST = 300;
        private static final int PARTS = 3;

        private final Sheet sheet;
        private final Links links;
        private final Families families;
        private final Units units;
        private final Totals totals;
        private final int[] told;
        private int size;

        Findings(Sheet sheet, Links links, Families families, Units units, Totals totals) {
            this.sheet = sheet;
            this.links = links;
            this.families = families;
            this.units = units;
            this.totals = totals;
            told = new int[MOST * PARTS];
            size = 0;
        }

        /** Families, units and totals are settled by now: from here their calls would go too deep. */
        int gather() {
            size = 0;
            totals.gatherTwice();
            for (int place = 0; place < PLACES; place++) {
                if (sheet.kindAt(place) != EMPTY) {
                    gatherOf(place);
                }
            }
            return size;
        }

        int tell(int i, int what) {
            if (i < 0 || i >= size || i >= MOST || what < 0 || what >= PARTS) {
                return NONE;
            }
            return told[i * PARTS + what];
        }

        private void gatherOf(int place) {
            boolean isNumber = sheet.kindAt(place) == NUMBER;
            int neighbour = families.neighbourToCopy(place);
            if (neighbour != NONE) {
                add(isNumber ? TYPED : ODD, place, neighbour);
            }
            Formula formula = sheet.formulaAt(place);
            if (formula != null) {
                gatherShort(place, formula);
            }
            int doubled = totals.leastTwice(place);
            if (doubled != NONE) {
                add(TWICE, place, doubled);
            }
            if (!sheet.isKept(place) && links.readersOf(place) == 0) {
                add(DEAD, place, NONE);
            }
            if (units.clashesAt(place)) {
                add(CLASH, place, NONE);
            }
        }

        private void gatherShort(int place, Formula formula) {
            for (int i = 0; i < formula.size(); i++) {
                int below = shortBelow(place, formula, i);
                if (below != NONE) {
                    add(SHORT, place, below);
                }
                int right = shortRight(place, formula, i);
                if (right != NONE) {
                    add(SHORT, place, right);
                }
            }
        }

        private void add(int kind, int place, int other) {
            if (size < MOST) {
                told[size * PARTS] = kind;
                told[size * PARTS + 1] = place;
                told[size * PARTS + 2] = other;
            }
            size++;
        }

        int shortBelow(int home, Formula formula, int i) {
            if (formula.stepAt(i) != Formula.SUM || formula.left(i, home) != formula.right(i, home)) {
                return NONE;
            }
            int row = formula.bottom(i, home);
            int last = row * COLUMNS + formula.right(i, home);
            return row < ROWS - 1 && goesOn(home, last, last + COLUMNS) ? last + COLUMNS : NONE;
        }

        int shortRight(int home, Formula formula, int i) {
            if (formula.stepAt(i) != Formula.SUM || formula.top(i, home) != formula.bottom(i, home)) {
                return NONE;
            }
            int column = formula.right(i, home);
            int last = formula.bottom(i, home) * COLUMNS + column;
            return column < COLUMNS - 1 && goesOn(home, last, last + 1) ? last + 1 : NONE;
        }

        private boolean goesOn(int home, int last, int further) {
            return further != home && (sheet.kindAt(further) == NUMBER || families.areKin(last, further));
        }
    }

    /** The cells that the latest mend, stretch or undo changed. */
    private static final class Changes {
        private static final int PARTS = 5;

        private final Values values;
        private final int[] oldValue;
        private final int[] oldError;
        private final int[] told;
        private int size;

        Changes(Values values) {
            this.values = values;
            oldValue = new int[PLACES];
            oldError = new int[PLACES];
            told = new int[PLACES * PARTS];
            size = 0;
        }

        /** A call that does nothing changes nothing: then there is nothing to tell of it. */
        void forget() {
            size = 0;
        }

        void remember() {
            for (int place = 0; place < PLACES; place++) {
                oldValue[place] = values.valueAt(place);
                oldError[place] = values.errorAt(place);
            }
        }

        int compare() {
            size = 0;
            for (int place = 0; place < PLACES; place++) {
                int value = values.valueAt(place);
                int error = values.errorAt(place);
                if ((value != oldValue[place] || error != oldError[place]) && size < PLACES) {
                    told[size * PARTS] = place;
                    told[size * PARTS + 1] = oldValue[place];
                    told[size * PARTS + 2] = value;
                    told[size * PARTS + 3] = oldError[place];
                    told[size * PARTS + 4] = error;
                    size++;
                }
            }
            return size;
        }

        int tell(int i, int what) {
            if (i < 0 || i >= size || i >= PLACES || what < 0 || what >= PARTS) {
                return NONE;
            }
            return told[i * PARTS + what];
        }
    }
}
