import java.util.NoSuchElementException;
import java.util.Random;

/** Whatever is asked of whatever sheet: nothing but what the document says is ever thrown. */
public final class NeverThrowsTest {
    private static final int[] ODD = {
        Integer.MIN_VALUE, Integer.MIN_VALUE + 1, -289, -288, -13, -12, -5, -2, -1, 0, 1, 2, 3, 4, 5, 6, 7, 8, 9, 10,
        11, 12, 13, 20, 24, 144, 275, 276, 286, 287, 288, 289, 299, 300, 301, 1440, Integer.MAX_VALUE - 1,
        Integer.MAX_VALUE};

    public static void main(String[] args) {
        oddArguments();
        heavySheet();
        Expect.end();
    }

    private static void oddArguments() {
        for (int run = 0; run < 200; run++) {
            Random random = new Random(run);
            SheetDoctor doctor = new SheetDoctor();
            for (int i = 0; i < 400; i++) {
                callAny(doctor, random, i);
            }
        }
    }

    private static int odd(Random random) {
        return random.nextInt(3) == 0 ? ODD[random.nextInt(ODD.length)] : random.nextInt(300) - 5;
    }

    private static void callAny(SheetDoctor doctor, Random random, int i) {
        int a = odd(random);
        int b = odd(random);
        boolean noSuch = false;
        try {
            switch (random.nextInt(17)) {
                case 0 -> doctor.feed(random.nextLong(), random.nextLong(), random.nextLong());
                case 1 -> Desk.feed(doctor, new String[] {"a1", "sum(a1:l24)", "-b3+", "$c$4/", "(", ")"}[i % 6]);
                case 2 -> doctor.formula(a);
                case 3 -> doctor.number(a, b);
                case 4 -> doctor.empty(a);
                case 5 -> doctor.copy(a, b);
                case 6 -> doctor.unit(a, b, 0, 0);
                case 7 -> doctor.keep(a, i % 2 == 0);
                case 8 -> doctor.check();
                case 9 -> doctor.finding(a, b);
                case 10 -> doctor.mend(a);
                case 11 -> doctor.stretch(a, b);
                case 12 -> doctor.changed(a, b);
                case 13 -> doctor.undo();
                case 14 -> doctor.ways(a, b);
                case 15 -> doctor.count(a);
                default -> {
                    noSuch = a < 0 || a > 287 || b < 0 || b > 10;
                    doctor.cell(a, b);
                    Expect.no("cell(" + a + ", " + b + ") must throw", noSuch);
                }
            }
        } catch (NoSuchElementException none) {
            Expect.yes("cell(" + a + ", " + b + ") threw", noSuch);
        } catch (RuntimeException other) {
            Expect.same("a call with " + a + ", " + b, other.toString(), "nothing thrown");
        }
    }

    /** As many and as long formulas as 512 calls can put, and the dearest calls on them. */
    private static void heavySheet() {
        Desk desk = new Desk();
        desk.put("a1", 1);
        desk.put("l2", "sum($a$1:l1)+sum($a$1:l1)+sum($a$1:l1)+sum($a$1:l1)+sum($a$1:l1)+sum($a$1:l1)+sum($a$1:l1)");
        for (int row = 3; row <= 24; row++) {
            desk.copy("l2", "l" + row);
        }
        for (int place = 12; place < 288; place++) {
            if (place % 12 != 11) {
                desk.doctor.copy(Desk.at("l2"), place);
            }
        }
        int findings = desk.doctor.check();
        Expect.yes("many findings", findings >= 276);
        for (int i = 0; i < 50; i++) {
            desk.doctor.number(0, i);
            desk.doctor.undo();
            desk.doctor.check();
            desk.doctor.ways(0, 287);
        }
        Expect.same("the same findings", desk.doctor.check(), findings);
    }
}
