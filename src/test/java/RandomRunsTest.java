import java.util.NoSuchElementException;
import java.util.Random;

/** Runs of as many calls as an object is made for, always the same ones, against the plain doctor. */
public final class RandomRunsTest {
    /** A little less than 512: the last of them may be several. */
    private static final int CALLS = 500;
    private final Random random;
    private final SheetDoctor doctor = new SheetDoctor();
    private final PlainDoctor plain = new PlainDoctor();
    private final int run;
    private final int columns;
    private final int rows;
    private final int firstColumn;
    private final int firstRow;
    private int asked = 0;

    private RandomRunsTest(int run) {
        this.run = run;
        random = new Random(run);
        columns = 2 + random.nextInt(4);
        rows = 2 + random.nextInt(5);
        firstColumn = corner(12 - columns);
        firstRow = corner(24 - rows);
    }

    /** Often at one of the sheet's sides, where things end. */
    private int corner(int last) {
        int kind = random.nextInt(4);
        return kind == 0 ? 0 : kind == 1 ? last : random.nextInt(last + 1);
    }

    public static void main(String[] args) {
        int runs = args.length > 0 ? Integer.parseInt(args[0]) : 200;
        for (int run = 0; run < runs; run++) {
            new RandomRunsTest(run).calls();
        }
        Expect.end();
    }

    private void calls() {
        while (asked < CALLS) {
            call();
        }
    }

    /** Mostly in a small region, so that cells meet; seldom at the far end, or nowhere. */
    private int place() {
        int kind = random.nextInt(40);
        if (kind == 0) {
            return new int[] {-1, 288, Integer.MIN_VALUE, Integer.MAX_VALUE}[random.nextInt(4)];
        }
        if (kind < 3) {
            return random.nextInt(288);
        }
        return 12 * (firstRow + random.nextInt(rows)) + firstColumn + random.nextInt(columns);
    }

    private String ref() {
        int far = random.nextInt(60);
        String column = String.valueOf((char) ('a' + (far == 0 ? random.nextInt(13) : firstColumn + random.nextInt(columns))));
        int row = far == 1 ? random.nextInt(27) : 1 + firstRow + random.nextInt(rows);
        return (random.nextInt(4) == 0 ? "$" : "") + column + (random.nextInt(4) == 0 ? "$" : "") + row;
    }

    private String part(int depth) {
        int kind = random.nextInt(depth > 6 ? 6 : 9);
        switch (kind) {
            case 0:
                return String.valueOf(random.nextInt(4));
            case 1:
            case 2:
            case 3:
                return ref();
            case 4:
            case 5:
                return "sum(" + ref() + ":" + ref() + ")";
            case 6:
                return "-" + part(depth + 1);
            default:
                return "(" + text(depth + 1) + ")";
        }
    }

    private String text(int depth) {
        StringBuilder text = new StringBuilder(part(depth));
        for (int i = random.nextInt(3); i > 0; i--) {
            text.append("++-*/".charAt(random.nextInt(5))).append(part(depth));
        }
        return text.toString();
    }

    private String totalText() {
        StringBuilder text = new StringBuilder(ref());
        for (int i = random.nextInt(3); i > 0; i--) {
            text.append('+').append(random.nextBoolean() ? ref() : "sum(" + ref() + ":" + ref() + ")");
        }
        return text.toString();
    }

    private String signs() {
        StringBuilder text = new StringBuilder(random.nextInt(3) == 0 ? totalText() : text(0));
        if (random.nextInt(5) == 0) {
            int at = random.nextInt(text.length() + 1);
            String odd = "()+-*/:$ 0129abmsum.A~{";
            text.insert(at, odd.charAt(random.nextInt(odd.length())));
        }
        if (random.nextInt(5) == 0) {
            text.deleteCharAt(random.nextInt(text.length()));
        }
        if (random.nextInt(5) == 0) {
            text.insert(random.nextInt(text.length() + 1), "  ");
        }
        return text.toString();
    }

    private void same(String call, long got, long due) {
        asked++;
        Expect.same("run " + run + ": " + call, got, due);
    }

    private void feedAndPut() {
        String text = signs();
        for (int i = 0; i < text.length(); i += 24) {
            long a = Desk.pack(text, i);
            long b = Desk.pack(text, i + 8);
            long c = Desk.pack(text, i + 16);
            same("feed " + text, doctor.feed(a, b, c), plain.feed(a, b, c));
        }
        if (random.nextInt(20) > 0) {
            int place = place();
            same("formula " + text, doctor.formula(place), plain.formula(place));
        }
    }

    private void call() {
        int place = place();
        switch (random.nextInt(20)) {
            case 0:
            case 1:
            case 2:
                feedAndPut();
                break;
            case 3:
            case 4:
                int v = random.nextInt(20) == 0 ? random.nextInt() : random.nextInt(5) - 1;
                same("number", doctor.number(place, v) ? 1 : 0, plain.number(place, v) ? 1 : 0);
                break;
            case 5:
                same("empty", doctor.empty(place) ? 1 : 0, plain.empty(place) ? 1 : 0);
                break;
            case 6:
            case 7:
            case 8:
                int to = place();
                same("copy", doctor.copy(place, to) ? 1 : 0, plain.copy(place, to) ? 1 : 0);
                break;
            case 9:
                int a = random.nextInt(3) - 1;
                int b = random.nextInt(20) == 0 ? random.nextInt(12) - 6 : 0;
                same("unit", doctor.unit(place, a, b, 0) ? 1 : 0, plain.unit(place, a, b, 0) ? 1 : 0);
                break;
            case 10:
                boolean yes = random.nextInt(3) > 0;
                same("keep", doctor.keep(place, yes) ? 1 : 0, plain.keep(place, yes) ? 1 : 0);
                break;
            case 11:
                same("check", doctor.check(), plain.check());
                findings();
                break;
            case 12:
            case 13:
                mends();
                break;
            case 14:
                same("undo", doctor.undo(), plain.undo());
                changes();
                break;
            case 15:
                int total = place();
                same("ways", doctor.ways(place, total), plain.ways(place, total));
                break;
            case 16:
                int what = random.nextInt(8) - 1;
                same("count " + what, doctor.count(what), plain.count(what));
                break;
            default:
                int of = random.nextInt(13) - 1;
                same("cell(" + place + ", " + of + ")", cell(place, of, true), cell(place, of, false));
                break;
        }
    }

    private long cell(int place, int what, boolean real) {
        try {
            return real ? doctor.cell(place, what) : plain.cell(place, what);
        } catch (NoSuchElementException none) {
            return Long.MIN_VALUE;
        }
    }

    /** A mend by chance seldom meets a cell that wants it: then one of the findings is tried. */
    private void mends() {
        int place = place();
        int k = random.nextInt(4) - 1;
        if (random.nextInt(3) > 0) {
            same("check", doctor.check(), plain.check());
            for (int i = 0; i < 300 && plain.finding(i, 0) != -1; i++) {
                if (plain.finding(i, 0) <= 3 && random.nextInt(3) == 0) {
                    place = plain.finding(i, 1);
                }
            }
        }
        if (random.nextBoolean()) {
            same("mend", doctor.mend(place), plain.mend(place));
        } else {
            same("stretch", doctor.stretch(place, k), plain.stretch(place, k));
        }
        changes();
    }

    private void findings() {
        int size = 0;
        while (size < 300 && plain.finding(size, 0) != -1) {
            size++;
        }
        for (int i = random.nextInt(4); i < size && asked < CALLS - 4; i += 1 + random.nextInt(3)) {
            for (int what = 0; what <= 2; what++) {
                same("finding(" + i + ", " + what + ")", doctor.finding(i, what), plain.finding(i, what));
            }
        }
        same("finding(" + size + ", 0)", doctor.finding(size, 0), plain.finding(size, 0));
    }

    private void changes() {
        int size = 0;
        while (plain.changed(size, 0) != -1) {
            size++;
        }
        for (int i = 0; i < size && asked < CALLS - 6; i += 1 + random.nextInt(3)) {
            for (int what = 0; what <= 4; what++) {
                same("changed(" + i + ", " + what + ")", doctor.changed(i, what), plain.changed(i, what));
            }
        }
        same("changed(" + size + ", 0)", doctor.changed(size, 0), plain.changed(size, 0));
    }
}
