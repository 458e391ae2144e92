/** Promise 14: undo. */
public final class Promise14UndoTest {
    public static void main(String[] args) {
        eachKind();
        units();
        deep();
        Expect.end();
    }

    private static void eachKind() {
        Desk desk = new Desk();
        Expect.same("nothing yet", desk.doctor.undo(), -1);
        desk.put("a1", 3).put("b1", "a1*2").put("c1", "b1*2").put("a1", 4);
        desk.doctor.empty(0);
        desk.copy("c1", "d1");
        Expect.same("undos", desk.doctor.count(5), 6);
        Expect.same("copy", desk.doctor.undo(), 0);
        Expect.same("d1", desk.get("d1", Desk.KIND), 0);
        Expect.same("empty", desk.doctor.undo(), 3);
        Expect.same("a1 is 4", desk.value("a1"), 4);
        Expect.same("number", desk.doctor.undo(), 3);
        Expect.same("changes", desk.changes(), "a1 4 3 0 0, b1 8 6 0 0, c1 16 12 0 0");
        Expect.same("formula", desk.doctor.undo(), 1);
        Expect.same("c1", desk.get("c1", Desk.KIND), 0);
        Expect.same("undos left", desk.doctor.count(5), 2);
        desk.put("b1", 6);
        Expect.same("no other value", desk.doctor.undo(), 0);
        Expect.same("b1 is a formula again", desk.get("b1", Desk.KIND), 2);
        Expect.same("formula", desk.doctor.undo(), 1);
        Expect.same("number", desk.doctor.undo(), 1);
        Expect.same("nothing left", desk.doctor.undo(), -1);
        desk.put("b2", "1").put("c2", "2").put("d2", "1");
        desk.doctor.mend(Desk.at("c2"));
        Expect.same("mend", desk.doctor.undo(), 1);
        Expect.same("c2", desk.value("c2"), 2);
        desk.put("a1", 1).put("a2", 1).put("f1", "sum(a1:a1)");
        desk.doctor.stretch(Desk.at("f1"), 0);
        Expect.same("stretch", desk.doctor.undo(), 1);
        Expect.same("f1", desk.get("f1", Desk.READS), 1);
        notDone(desk);
    }

    private static void notDone(Desk desk) {
        int undos = desk.doctor.count(5);
        desk.formula("a1", "1+");
        desk.doctor.number(288, 1);
        desk.doctor.empty(-1);
        desk.doctor.copy(0, 288);
        desk.doctor.mend(0);
        desk.doctor.stretch(0, 0);
        desk.doctor.unit(0, 1, 1, 1);
        desk.doctor.keep(0, true);
        desk.doctor.check();
        Expect.same("what was not done is not taken back", desk.doctor.count(5), undos);
    }

    private static void units() {
        Desk desk = new Desk();
        desk.put("a1", 3).unit("a1", 1, 2, 3).put("a1", "1");
        Expect.same("undo", desk.doctor.undo(), 1);
        Expect.same("its unit, too", desk.unitOf("a1"), "1 2 3");
        desk.put("a1", 4).unit("a1", 0, 0, 1);
        desk.doctor.undo();
        Expect.same("the one of then", desk.unitOf("a1"), "1 2 3");
        desk.put("b1", 5).unit("a1", 4, 4, 4);
        desk.doctor.undo();
        Expect.same("another cell's stays", desk.unitOf("a1"), "4 4 4");
        desk.doctor.undo();
        Expect.same("empty again", desk.get("a1", Desk.KIND), 0);
    }

    private static void deep() {
        Desk desk = new Desk();
        for (int v = 1; v <= 30; v++) {
            desk.put("a1", v);
            Expect.same("undos", desk.doctor.count(5), Math.min(v, 20));
        }
        for (int v = 29; v >= 10; v--) {
            Expect.same("undo", desk.doctor.undo(), 1);
            Expect.same("value", desk.value("a1"), v);
        }
        Expect.same("no deeper", desk.doctor.undo(), -1);
        Expect.same("the twenty-first stays", desk.value("a1"), 10);
        desk.put("a1", 50);
        Expect.same("and on", desk.doctor.undo(), 1);
        Expect.same("back to it", desk.value("a1"), 10);
    }
}
