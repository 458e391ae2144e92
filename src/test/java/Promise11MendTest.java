/** Promise 11: mend. */
public final class Promise11MendTest {
    public static void main(String[] args) {
        odd();
        typed();
        refused();
        Expect.end();
    }

    private static void odd() {
        Desk desk = new Desk();
        desk.put("a1", 1).put("b1", 2).put("c1", 3).put("a2", "a1*2").put("b2", "b1*3").put("c2", "c1*2");
        desk.put("d5", "b2+1").put("e5", "d5-d5");
        Expect.same("mend", desk.doctor.mend(Desk.at("b2")), 2);
        Expect.same("changes", desk.changes(), "b2 6 4 0 0, d5 7 5 0 0");
        Expect.same("family", desk.get("b2", Desk.FAMILY), Desk.at("a2"));
        Expect.same("mended", desk.doctor.mend(Desk.at("b2")), -1);
        Expect.same("undo", desk.doctor.undo(), 2);
        Expect.same("as it was", desk.value("b2"), 6);
        desk.put("b2", "2*b1");
        Expect.same("no other value", desk.doctor.mend(Desk.at("b2")), 0);
        Expect.same("but another formula", desk.get("b2", Desk.FAMILY), Desk.at("a2"));
        desk.doctor.keep(Desk.at("b2"), true);
        desk.put("b2", "1/0");
        Expect.same("kept ones, too", desk.doctor.mend(Desk.at("b2")), 3);
        Expect.same("errors go", desk.changes(), "b2 0 4 1 0, d5 0 5 1 0, e5 0 0 1 0");
    }

    private static void typed() {
        Desk desk = new Desk();
        desk.put("c1", "b1+5").put("c2", 8).unit("c2", 1, 1, 1).put("c3", "b3+5");
        Expect.same("mend", desk.doctor.mend(Desk.at("c2")), 1);
        Expect.same("a formula now", desk.get("c2", Desk.KIND), 2);
        Expect.same("value", desk.value("c2"), 5);
        Expect.same("unit", desk.unitOf("c2"), "0 0 0");
        Expect.same("undo", desk.doctor.undo(), 1);
        Expect.same("unit again", desk.unitOf("c2"), "1 1 1");
    }

    private static void refused() {
        Desk desk = new Desk();
        desk.put("a1", 1).put("b1", "a1").put("k24", "sum(b1:$d24)").put("l24", "1");
        int undos = desk.doctor.count(5);
        for (int place : new int[] {-1, 0, 1, 2, 286, 287, 288, Integer.MIN_VALUE, Integer.MAX_VALUE}) {
            Expect.same("mend(" + place + ")", desk.doctor.mend(place), -1);
        }
        Expect.same("undos", desk.doctor.count(5), undos);
        desk = new Desk();
        desk.put("b2", "d2").put("c2", 4).put("d2", "e2");
        Expect.same("neighbours of two families", desk.doctor.mend(Desk.at("c2")), -1);
        desk.put("d2", "f2");
        desk.doctor.empty(Desk.at("c2"));
        Expect.same("an empty cell", desk.doctor.mend(Desk.at("c2")), -1);
        desk.put("c2", "e2");
        Expect.same("one of the family", desk.doctor.mend(Desk.at("c2")), -1);
    }
}
