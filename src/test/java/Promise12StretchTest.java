/** Promise 12: stretch. */
public final class Promise12StretchTest {
    public static void main(String[] args) {
        down();
        right();
        severalSums();
        rings();
        refused();
        Expect.end();
    }

    private static void down() {
        Desk desk = new Desk();
        desk.put("a1", 1).put("a2", 2).put("a3", 3).put("a4", 4).put("c9", "sum(a1:$a$2)").put("c10", "c9");
        Expect.same("stretch", desk.doctor.stretch(Desk.at("c9"), 0), 2);
        Expect.same("changes", desk.changes(), "c9 3 6 0 0, c10 3 6 0 0");
        Expect.same("once more", desk.doctor.stretch(Desk.at("c9"), 0), 2);
        Expect.same("value", desk.value("c9"), 10);
        Expect.same("no more", desk.doctor.stretch(Desk.at("c9"), 0), -1);
        Expect.yes("copy", desk.copy("c9", "c11"));
        Expect.same("what was fixed still is: sum(a3:$a$4)", desk.value("c11"), 7);
        Expect.no("and goes no further", desk.copy("c9", "c13"));
        Expect.same("undos", desk.doctor.count(5), 9);
    }

    private static void right() {
        Desk desk = new Desk();
        desk.put("a1", 1).put("b1", 2).put("c1", 0).put("a3", "sum(a1:a1)");
        Expect.same("to the right", desk.doctor.stretch(Desk.at("a3"), 0), 1);
        Expect.same("value", desk.value("a3"), 3);
        Expect.same("no other value", desk.doctor.stretch(Desk.at("a3"), 0), 0);
        Expect.same("reads", desk.get("a3", Desk.READS), 3);
        Expect.same("no more", desk.doctor.stretch(Desk.at("a3"), 0), -1);
        desk = new Desk();
        desk.put("a1", 1).put("b1", 2).put("a2", 30).put("d4", "sum(a1:a1)");
        Expect.same("down goes first", desk.doctor.stretch(Desk.at("d4"), 0), 1);
        Expect.same("down", desk.value("d4"), 31);
        desk = new Desk();
        desk.put("j1", 1).put("k1", 2).put("l1", 3).put("d4", "sum(j1:j1)");
        desk.doctor.stretch(Desk.at("d4"), 0);
        desk.doctor.stretch(Desk.at("d4"), 0);
        Expect.same("up to the side", desk.value("d4"), 6);
        Expect.same("there it ends", desk.doctor.stretch(Desk.at("d4"), 0), -1);
    }

    private static void severalSums() {
        Desk desk = new Desk();
        desk.put("a1", 1).put("a2", 2).put("b1", "a1").put("b2", "a2").put("c1", 50).put("c9", 7);
        desk.put("h8", "sum(a1:a1)*1000-(sum(c9:c9)+sum($b1:$b1))*2");
        Expect.same("the second is not short", desk.doctor.stretch(Desk.at("h8"), 1), -1);
        Expect.same("nothing told of it", desk.doctor.changed(0, 0), -1);
        Expect.same("the third", desk.doctor.stretch(Desk.at("h8"), 2), 1);
        Expect.same("its value", desk.value("h8"), 1000 - 2 * (7 + 3));
        Expect.same("the first", desk.doctor.stretch(Desk.at("h8"), 0), 1);
        Expect.same("value then", desk.value("h8"), 3000 - 2 * (7 + 3));
        Expect.same("there is no fourth", desk.doctor.stretch(Desk.at("h8"), 3), -1);
    }

    private static void rings() {
        Desk desk = new Desk();
        desk.put("a1", "$k1").put("a2", "$k2").put("k1", 4).put("k2", "h8").put("h8", "sum(a1:a1)");
        Expect.same("a2 before", desk.value("a2"), 4);
        Expect.same("stretch into a ring", desk.doctor.stretch(Desk.at("h8"), 0), 3);
        Expect.same("changes", desk.changes(), "a2 4 0 0 2, k2 4 0 0 2, h8 4 0 0 2");
        Expect.same("undo", desk.doctor.undo(), 3);
        Expect.same("changes back", desk.changes(), "a2 0 4 2 0, k2 0 4 2 0, h8 0 4 2 0");
        desk.put("k1", "h8").put("a3", 5);
        Expect.same("from a ring", desk.get("h8", Desk.ERROR), 2);
        Expect.same("errors that stay are no changes", desk.doctor.stretch(Desk.at("h8"), 0), 0);
        Expect.same("it was done", desk.get("h8", Desk.READS), 2);
    }

    private static void refused() {
        Desk desk = new Desk();
        desk.put("a1", 1).put("a2", 2).put("b5", "sum(a1:a1)").put("c5", "a1+a2");
        int undos = desk.doctor.count(5);
        for (int k : new int[] {-1, 1, 2, Integer.MIN_VALUE, Integer.MAX_VALUE}) {
            Expect.same("stretch(b5, " + k + ")", desk.doctor.stretch(Desk.at("b5"), k), -1);
        }
        for (int place : new int[] {-1, 0, 30, 50, 288, Integer.MIN_VALUE, Integer.MAX_VALUE}) {
            Expect.same("stretch(" + place + ", 0)", desk.doctor.stretch(place, 0), -1);
        }
        Expect.same("undos", desk.doctor.count(5), undos);
        Expect.same("value", desk.value("b5"), 1);
    }
}
