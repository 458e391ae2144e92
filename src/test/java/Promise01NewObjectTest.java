/** Promise 1: a new object. */
public final class Promise01NewObjectTest {
    public static void main(String[] args) {
        SheetDoctor doctor = new SheetDoctor();
        Expect.same("NONE", SheetDoctor.NONE, -1);
        for (int what = 0; what <= 10; what++) {
            SheetDoctor other = new SheetDoctor();
            for (int place = 0; place < 288; place++) {
                Expect.same("cell(" + place + ", " + what + ")", other.cell(place, what), what == 3 ? -1 : 0);
            }
        }
        for (int what = 0; what <= 5; what++) {
            Expect.same("count(" + what + ")", doctor.count(what), 0);
        }
        Expect.same("finding before a check", doctor.finding(0, 0), -1);
        Expect.same("changed before a change", doctor.changed(0, 0), -1);
        Expect.same("check", doctor.check(), 0);
        Expect.same("undo", doctor.undo(), -1);
        new SheetDoctor().number(0, 5);
        Expect.same("an object knows nothing of another", doctor.cell(0, 0), 0);
        Expect.end();
    }
}
