/** Promise 13: changed. */
public final class Promise13ChangedTest {
    public static void main(String[] args) {
        told();
        ofTheLatest();
        Expect.end();
    }

    private static void told() {
        Desk desk = new Desk();
        desk.put("c1", 5).put("a2", "10/c1").put("l1", "c1-7").put("c1", 0);
        Expect.same("undo", desk.doctor.undo(), 3);
        Expect.same("by places, with values and errors", desk.changes(), "c1 0 5 0 0, l1 -7 -2 0 0, a2 0 2 1 0");
        for (int odd : new int[] {-1, 5, Integer.MIN_VALUE, Integer.MAX_VALUE}) {
            Expect.same("changed(0, " + odd + ")", desk.doctor.changed(0, odd), -1);
        }
        for (int i : new int[] {-1, 3, 288, Integer.MIN_VALUE, Integer.MAX_VALUE}) {
            Expect.same("changed(" + i + ", 0)", desk.doctor.changed(i, 0), -1);
        }
        desk.put("c1", 9).put("a2", 1);
        desk.doctor.check();
        Expect.same("other calls leave it", desk.changes(), "c1 0 5 0 0, l1 -7 -2 0 0, a2 0 2 1 0");
    }

    private static void ofTheLatest() {
        Desk desk = new Desk();
        desk.put("b2", "1").put("c2", 2).put("d2", "1");
        Expect.same("mend", desk.doctor.mend(Desk.at("c2")), 1);
        Expect.same("told", desk.changes(), "c2 2 1 0 0");
        Expect.same("a mend that is none", desk.doctor.mend(Desk.at("c2")), -1);
        Expect.same("changed nothing", desk.changes(), "");
        Expect.same("undo", desk.doctor.undo(), 1);
        Expect.same("told of the undo", desk.changes(), "c2 1 2 0 0");
        Expect.same("a stretch that is none", desk.doctor.stretch(Desk.at("b2"), 0), -1);
        Expect.same("changed nothing, too", desk.changes(), "");
        for (int i = 0; i < 3; i++) {
            Expect.same("undo " + i, desk.doctor.undo(), 1);
        }
        Expect.same("the last of them", desk.changes(), "b2 1 0 0 0");
        Expect.same("an undo that is none", desk.doctor.undo(), -1);
        Expect.same("changed nothing either", desk.changes(), "");
    }
}
