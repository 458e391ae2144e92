/** Promise 6: copy. */
public final class Promise06CopyTest {
    public static void main(String[] args) {
        moved();
        refused();
        othersThanFormulas();
        putAnewWithoutUnit();
        Expect.end();
    }

    private static Desk grid() {
        Desk desk = new Desk();
        for (int row = 1; row <= 4; row++) {
            for (int column = 0; column < 4; column++) {
                desk.put((char) ('a' + column) + String.valueOf(row), 10 * row + column);
            }
        }
        return desk;
    }

    private static void moved() {
        Desk desk = grid();
        desk.put("f2", "a1").put("f6", "$a1").put("f10", "a$1").put("f14", "$a$1").put("f18", "sum(a1:$b2)*2");
        Expect.yes("a1 moves", desk.copy("f2", "h4"));
        Expect.same("to c3", desk.value("h4"), 32);
        Expect.yes("$a1 moves", desk.copy("f6", "h8"));
        Expect.same("to $a3", desk.value("h8"), 30);
        Expect.yes("a$1 moves", desk.copy("f10", "h12"));
        Expect.same("to c$1", desk.value("h12"), 12);
        Expect.yes("$a$1 moves", desk.copy("f14", "h16"));
        Expect.same("not", desk.value("h16"), 10);
        Expect.yes("sum(a1:$b2) moves", desk.copy("f18", "g20"));
        Expect.same("to sum(b3:$b4)", desk.value("g20"), 2 * (31 + 41));
        Expect.same("it is of the family", desk.get("g20", Desk.FAMILY), Desk.at("f18"));
        Expect.yes("back, the other way", desk.copy("h4", "f2"));
        Expect.same("a1 again", desk.value("f2"), 10);
        Expect.yes("to its own place", desk.copy("f2", "f2"));
        Expect.same("still a1", desk.value("f2"), 10);
    }

    private static void refused() {
        Desk desk = grid();
        desk.put("b2", "a1");
        int undos = desk.doctor.count(5);
        Expect.no("off to the left", desk.copy("b2", "a2"));
        Expect.no("off above", desk.copy("b2", "b1"));
        desk.put("e5", "l24").put("f5", "sum(b2:$c3)").put("g5", "sum(b2:c$3)").put("h5", "sum($b2:c3)");
        Expect.no("off to the right", desk.copy("e5", "f5"));
        Expect.no("off below", desk.copy("e5", "e6"));
        Expect.yes("as far as the fixed one", desk.copy("f5", "g6"));
        Expect.no("the second left of the first", desk.copy("f5", "h5"));
        Expect.yes("as far as the fixed row", desk.copy("g5", "g6"));
        Expect.no("the second above the first", desk.copy("g5", "g7"));
        Expect.yes("the first fixed", desk.copy("h5", "g5"));
        Expect.no("the first fixed, the second left of it", desk.copy("h5", "f5"));
        for (int place : new int[] {-1, 288, Integer.MIN_VALUE, Integer.MAX_VALUE}) {
            Expect.no("from nowhere", desk.doctor.copy(place, 0));
            Expect.no("to nowhere", desk.doctor.copy(0, place));
        }
        Expect.same("undos", desk.doctor.count(5), Math.min(20, undos + 7));
        Expect.same("a2 is as it was", desk.value("a2"), 20);
    }

    private static void othersThanFormulas() {
        Desk desk = new Desk();
        desk.put("a1", 5).unit("a1", 1, 0, -2).put("b1", 6).put("c1", "1");
        Expect.yes("a number", desk.copy("a1", "b1"));
        Expect.same("is the same", desk.value("b1"), 5);
        Expect.same("the unit stays behind", desk.unitOf("a1"), "1 0 -2");
        Expect.yes("over a formula", desk.copy("a1", "c1"));
        Expect.same("kind", desk.get("c1", Desk.KIND), 1);
        Expect.yes("an empty one", desk.copy("l24", "a1"));
        Expect.same("kind then", desk.get("a1", Desk.KIND), 0);
        Expect.same("the copy stays", desk.value("b1"), 5);
        Expect.same("undos", desk.doctor.count(5), 6);
    }

    private static void putAnewWithoutUnit() {
        Desk desk = new Desk();
        desk.put("a1", 5).unit("a1", 1, 0, -2).put("b1", 6).unit("b1", 0, 3, 0);
        Expect.yes("over another unit", desk.copy("a1", "b1"));
        Expect.same("no unit", desk.unitOf("b1"), "0 0 0");
        Expect.same("the unit of then", desk.doctor.undo() + " " + desk.unitOf("b1"), "1 0 3 0");
        Expect.yes("to itself", desk.copy("a1", "a1"));
        Expect.same("its value", desk.value("a1"), 5);
        Expect.same("put anew, too", desk.unitOf("a1"), "0 0 0");
        Expect.same("and taken back", desk.doctor.undo() + " " + desk.unitOf("a1"), "0 1 0 -2");
        desk.copy("a1", "a2");
        desk.unit("a2", 1, 0, -2).put("c1", "a1+a2").put("c2", "a1+a3");
        desk.copy("a2", "a3");
        Expect.same("no clash where it was told anew", desk.findingsButDead(), "6 c2 -");
    }
}
