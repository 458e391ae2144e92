import java.util.NoSuchElementException;

/** A doctor whose cells are called by their names, and whose texts are written out. */
final class Desk {
    static final int KIND = 0;
    static final int VALUE = 1;
    static final int ERROR = 2;
    static final int FAMILY = 3;
    static final int TOTAL = 7;
    static final int READS = 8;
    static final int READERS = 9;
    static final int KEPT = 10;

    final SheetDoctor doctor = new SheetDoctor();

    static int at(String name) {
        return 12 * (Integer.parseInt(name.substring(1)) - 1) + name.charAt(0) - 'a';
    }

    static long pack(String text, int from) {
        long packed = 0;
        for (int i = from; i < from + 8; i++) {
            packed = packed << 8 | (i < text.length() ? text.charAt(i) : 0);
        }
        return packed;
    }

    static int feed(SheetDoctor doctor, String text) {
        int signs = doctor.count(4);
        for (int i = 0; i < text.length(); i += 24) {
            signs = doctor.feed(pack(text, i), pack(text, i + 8), pack(text, i + 16));
        }
        return signs;
    }

    int feed(String text) {
        return feed(doctor, text);
    }

    int formula(String name, String text) {
        feed(text);
        return doctor.formula(at(name));
    }

    /** Puts a cell that must be accepted. */
    Desk put(String name, String text) {
        Expect.same("formula " + text + " put to " + name, formula(name, text), 0);
        return this;
    }

    Desk put(String name, int number) {
        Expect.yes("number put to " + name, doctor.number(at(name), number));
        return this;
    }

    Desk unit(String name, int a, int b, int c) {
        Expect.yes("unit of " + name, doctor.unit(at(name), a, b, c));
        return this;
    }

    boolean copy(String from, String to) {
        return doctor.copy(at(from), at(to));
    }

    int get(String name, int what) {
        return doctor.cell(at(name), what);
    }

    int value(String name) {
        return get(name, VALUE);
    }

    String unitOf(String name) {
        return get(name, 4) + " " + get(name, 5) + " " + get(name, 6);
    }

    int ways(String from, String total) {
        return doctor.ways(at(from), at(total));
    }

    static String name(int place) {
        return place < 0 ? "-" : (char) ('a' + place % 12) + String.valueOf(place / 12 + 1);
    }

    /** All findings of a new check, as "kind cell other" each. */
    String findings() {
        int size = doctor.check();
        StringBuilder all = new StringBuilder();
        for (int i = 0; i < size; i++) {
            all.append(i == 0 ? "" : ", ").append(doctor.finding(i, 0)).append(' ')
                    .append(name(doctor.finding(i, 1))).append(' ').append(name(doctor.finding(i, 2)));
        }
        return all.toString();
    }

    /** The same without the cells that nobody reads. */
    String findingsButDead() {
        StringBuilder rest = new StringBuilder();
        for (String one : findings().split(", ")) {
            if (!one.startsWith("5 ")) {
                rest.append(rest.length() == 0 ? "" : ", ").append(one);
            }
        }
        return rest.toString();
    }

    /** All that the latest mend, stretch or undo changed, as "cell old new oldError newError" each. */
    String changes() {
        StringBuilder all = new StringBuilder();
        for (int i = 0; doctor.changed(i, 0) != SheetDoctor.NONE; i++) {
            all.append(i == 0 ? "" : ", ").append(name(doctor.changed(i, 0)));
            for (int what = 1; what <= 4; what++) {
                all.append(' ').append(doctor.changed(i, what));
            }
        }
        return all.toString();
    }

    static boolean cellThrows(SheetDoctor doctor, int place, int what) {
        try {
            doctor.cell(place, what);
            return false;
        } catch (NoSuchElementException none) {
            return true;
        }
    }
}
