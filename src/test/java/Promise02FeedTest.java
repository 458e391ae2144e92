/** Promise 2: feed, and what the tape takes. */
public final class Promise02FeedTest {
    public static void main(String[] args) {
        order();
        leftOut();
        full();
        Expect.end();
    }

    private static void order() {
        SheetDoctor doctor = new SheetDoctor();
        Expect.same("first", doctor.feed(Desk.pack("1", 0), Desk.pack("+", 0), Desk.pack("2", 0)), 3);
        Expect.same("behind it", doctor.feed(Desk.pack("*10/4-", 0), Desk.pack("1", 0), 0), 10);
        Expect.same("signs", doctor.count(4), 10);
        Expect.same("formula", doctor.formula(0), 0);
        Expect.same("1+2*10/4-1", doctor.cell(0, 1), 5);
        Expect.same("the tape was taken", doctor.count(4), 0);
        Expect.same("nothing", doctor.feed(0, 0, 0), 0);
        Expect.same("24 signs", doctor.feed(Desk.pack("12345678", 0), Desk.pack("        ", 0),
                Desk.pack("+++++++1", 0)), 24);
        Expect.same("a number of 8 digits", doctor.formula(0), 1);
    }

    private static void leftOut() {
        SheetDoctor doctor = new SheetDoctor();
        Expect.same("31 and 32", doctor.feed(0x1f20L, 0, 0), 1);
        Expect.same("126 and 127", doctor.feed(0x7e7fL, 0, 0), 2);
        Expect.same("128 and 255", doctor.feed(0x80ffL, -1L, Long.MIN_VALUE), 2);
        Expect.same("between", doctor.feed(0x3100320033003400L, 0, 0), 6);
        Expect.same("the tilde is none", doctor.formula(0), 1 + 16);
        doctor.feed(0x3100320a33003400L, 0, 0);
        Expect.same("what is left out parts nothing", doctor.formula(0), 0);
        Expect.same("1234", doctor.cell(0, 1), 1234);
    }

    private static void full() {
        Desk desk = new Desk();
        for (int i = 1; i <= 4; i++) {
            Expect.same("part " + i, desk.feed("1+1+1+1+1+1+1+1+1+1+1+1+"), 24 * i);
        }
        Expect.same("119", desk.feed("1+1+1+1+1+1+1+1+1+1+1+1"), 119);
        Expect.same("the last one goes in", desk.doctor.feed(0x2031L, 0x32L, 0x33L), 120);
        Expect.same("full", desk.feed("+1"), 120);
        Expect.same("formula", desk.doctor.formula(0), 0);
        Expect.same("what was beyond is not there", desk.value("a1"), 60);
    }
}
