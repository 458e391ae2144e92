/** Promise 15: cell. */
public final class Promise15CellTest {
    public static void main(String[] args) {
        kinds();
        families();
        totals();
        reads();
        none();
        Expect.end();
    }

    private static void kinds() {
        Desk desk = new Desk();
        desk.put("b1", 9).put("c1", "b1+1").put("d1", "1/0");
        String kinds = "";
        for (String name : new String[] {"a1", "b1", "c1", "d1"}) {
            kinds += desk.get(name, Desk.KIND) + " " + desk.value(name) + " " + desk.get(name, Desk.ERROR) + ", ";
        }
        Expect.same("kinds, values, errors", kinds, "0 0 0, 1 9 0, 2 10 0, 2 0 1, ");
    }

    private static void family(String one, String first, String other, String second, boolean same) {
        Desk desk = new Desk();
        desk.put(one, first).put(other, second);
        Expect.same(first + " and " + second, desk.doctor.count(2), same ? 1 : 2);
        Expect.same("family of " + second, desk.get(other, Desk.FAMILY), Desk.at(same ? one : other));
    }

    private static void families() {
        family("c3", "a1", "d4", "b2", true);
        family("c3", "a1", "d4", "a1", false);
        family("c3", "$a$1", "d4", "$a$1", true);
        family("c3", "$a$1", "d4", "$a$2", false);
        family("c3", "$a$1", "d3", "a$1", false);
        family("c3", "a$1", "c4", "$a$1", false);
        family("c3", "$a1", "e4", "$a2", true);
        family("c3", "a$1", "d9", "b$1", true);
        family("c3", "a$1", "d9", "b$2", false);
        family("c3", "a1+1", "d4", " b 2+ 1 ", true);
        family("c3", "a1+1", "d4", "b2+2", false);
        family("c3", "a1+1", "d4", "b2-1", false);
        family("c3", "(a1)", "d4", "b2", false);
        family("c3", "-a1", "d4", "-b2", true);
        family("c3", "-(a1)", "d4", "(-b2)", false);
        family("c3", "1-2-3", "d4", "1-(2-3)", false);
        family("c3", "1*2/3", "d4", "1/2*3", false);
        family("c3", "sum(a1:b2)", "d4", "sum(b2:c3)", true);
        family("c3", "sum(a1:b2)", "d4", "sum(b2:c4)", false);
        family("c3", "sum(a1:b2)", "d4", "sum(b2:$c3)", false);
        family("c3", "sum(a1:a1)", "d4", "b2", false);
        family("c3", "a1+b2", "d4", "b2", false);
        family("c3", "12", "d4", "1+2", false);
        Desk desk = new Desk();
        desk.put("l24", "$a1").put("b2", "b1+1").put("c1", 4).put("b4", "b3+1").put("a9", "b2");
        Expect.same("the least place", desk.get("b4", Desk.FAMILY), Desk.at("b2"));
        Expect.same("its own", desk.get("l24", Desk.FAMILY), 287);
        Expect.same("of a number", desk.get("c1", Desk.FAMILY), -1);
        Expect.same("of an empty cell", desk.get("d1", Desk.FAMILY), -1);
        desk.doctor.empty(Desk.at("b2"));
        Expect.same("the least one is gone", desk.get("b4", Desk.FAMILY), Desk.at("b4"));
    }

    private static void total(String text, boolean is) {
        Desk desk = new Desk();
        desk.put("h8", text).put("a1", 1).put("b1", "b1");
        Expect.same("is a total: " + text, desk.get("h8", Desk.TOTAL), is ? 1 : 0);
    }

    private static void totals() {
        total("a1", true);
        total("a1+a2", true);
        total("sum(a1:a2)", true);
        total("$a$1+sum(a1:a2)+c3+sum($a$1:c5)", true);
        total("b1", true);
        total("a1-a2", false);
        total("a1+1", false);
        total("(a1)", false);
        total("(a1+a2)", false);
        total("a1+(a2+a3)", false);
        total("-a1", false);
        total("a1*a2", false);
        total("a1+a2/a3", false);
        total("7", false);
        total("h8+a1", false);
        total("sum(a1:i9)", false);
        Desk desk = new Desk();
        desk.put("a1", 5);
        Expect.same("a number", desk.get("a1", Desk.TOTAL), 0);
        desk.put("a1", "c1").put("l24", "sum(a1:c1)");
        Expect.same("at the first place", desk.get("a1", Desk.TOTAL), 1);
        Expect.same("at the last one", desk.get("l24", Desk.TOTAL), 1);
        Expect.same("an empty cell", desk.get("b1", Desk.TOTAL), 0);
    }

    private static void reads() {
        Desk desk = new Desk();
        desk.put("a1", 1).put("c1", "a1+a1+sum(a1:b2)*a3").put("d1", "a1").put("e1", "e1").put("f1", "7");
        desk.put("g1", "sum(a1:l24)");
        Expect.same("cells that c1 reads", desk.get("c1", Desk.READS), 5);
        Expect.same("that e1 reads", desk.get("e1", Desk.READS), 1);
        Expect.same("that f1 reads", desk.get("f1", Desk.READS), 0);
        Expect.same("that g1 reads", desk.get("g1", Desk.READS), 288);
        Expect.same("that a number reads", desk.get("a1", Desk.READS), 0);
        Expect.same("readers of a1", desk.get("a1", Desk.READERS), 3);
        Expect.same("of an empty cell", desk.get("b2", Desk.READERS), 2);
        Expect.same("of e1", desk.get("e1", Desk.READERS), 2);
        Expect.same("of l24", desk.get("l24", Desk.READERS), 1);
    }

    private static void none() {
        SheetDoctor doctor = new SheetDoctor();
        for (int place : new int[] {-1, 288, Integer.MIN_VALUE, Integer.MAX_VALUE}) {
            for (int what = -1; what <= 11; what++) {
                Expect.yes("cell(" + place + ", " + what + ")", Desk.cellThrows(doctor, place, what));
            }
        }
        for (int what : new int[] {-1, 11, Integer.MIN_VALUE, Integer.MAX_VALUE}) {
            Expect.yes("cell(0, " + what + ")", Desk.cellThrows(doctor, 0, what));
        }
        Expect.no("cell(287, 10)", Desk.cellThrows(doctor, 287, 10));
    }
}
