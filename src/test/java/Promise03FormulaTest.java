/** Promise 3: formula, with the tokens, the grammar, the faults and the values. */
public final class Promise03FormulaTest {
    public static void main(String[] args) {
        answers();
        accepted();
        misplaced();
        rows();
        depth();
        spans();
        values();
        errors();
        rings();
        Expect.end();
    }

    private static void fault(String text, int kind, int at) {
        Desk desk = new Desk();
        desk.put("d4", 77);
        Expect.same("fault of '" + text + "'", desk.formula("d4", text), kind + 16 * at);
        Expect.same("the cell after '" + text + "'", desk.value("d4"), 77);
        Expect.same("the tape after '" + text + "'", desk.doctor.count(4), 0);
        Expect.same("undos after '" + text + "'", desk.doctor.count(5), 1);
    }

    private static void worth(String text, int value) {
        Desk desk = new Desk();
        desk.put("a1", 7).put("b1", -3).put("a2", 100).put("b2", Integer.MAX_VALUE).put("c1", Integer.MIN_VALUE);
        desk.put("l24", text);
        Expect.same("error of '" + text + "'", desk.get("l24", Desk.ERROR), 0);
        Expect.same("value of '" + text + "'", desk.value("l24"), value);
    }

    private static void answers() {
        Desk desk = new Desk();
        for (int place : new int[] {-1, 288, Integer.MIN_VALUE, Integer.MAX_VALUE}) {
            desk.feed("1+1");
            Expect.same("formula(" + place + ")", desk.doctor.formula(place), -1);
            Expect.same("the tape is empty then, too", desk.doctor.count(4), 0);
            desk.feed("1+");
            Expect.same("no place goes before a fault", desk.doctor.formula(place), -1);
        }
        Expect.same("formulas", desk.doctor.count(1), 0);
        desk.put("a1", "1").put("l24", "2");
        Expect.same("kind", desk.get("l24", Desk.KIND), 2);
        Expect.same("undos", desk.doctor.count(5), 2);
    }

    private static void accepted() {
        worth("a1", 7);
        worth("  a1  ", 7);
        worth("a 1", 7);
        worth("$a$1", 7);
        worth(" $ a $ 1 ", 7);
        worth("a01", 7);
        worth("a000001", 7);
        worth("sum(a1:b1)", 4);
        worth("sum ( a1 : $b $1 )", 4);
        worth("sum(a1:a1)", 7);
        worth("999999", 999999);
        worth("000000", 0);
        worth("-a1", -7);
        worth("--a1", 7);
        worth("1--1", 2);
        worth("1*-2", -2);
        worth("((1))", 1);
    }

    private static void misplaced() {
        fault("", 1, 0);
        fault("   ", 1, 3);
        fault("1 + ", 1, 4);
        fault("1+", 1, 2);
        fault("+1", 1, 0);
        fault("1 2", 1, 2);
        fault("1a", 1, 1);
        fault("m1", 1, 0);
        fault("z1", 1, 0);
        fault("ab1", 1, 0);
        fault("abc1", 1, 0);
        fault("abcd1", 1, 0);
        fault("1+sums(a1:a2)", 1, 2);
        fault("tum(a1:a2)", 1, 0);
        fault("som(a1:a2)", 1, 0);
        fault("sun(a1:a2)", 1, 0);
        fault("su(a1:a2)", 1, 0);
        fault("sum", 1, 3);
        fault("sum1", 1, 3);
        fault("sum a1", 1, 4);
        fault("sum(1:2)", 1, 4);
        fault("sum(a1)", 1, 6);
        fault("sum(a1:)", 1, 7);
        fault("sum(a1:b2", 1, 9);
        fault("sum(a1:b2+1)", 1, 9);
        fault("sum((a1:b2))", 1, 4);
        fault("sum(sum(a1:b2):a1)", 1, 4);
        fault("a", 1, 1);
        fault("a+1", 1, 1);
        fault("a$", 1, 2);
        fault("a$$1", 1, 2);
        fault("$$a1", 1, 1);
        fault("$1", 1, 1);
        fault("$sum(a1:a2)", 1, 1);
        fault("$m1", 1, 1);
        fault("1234567", 1, 0);
        fault("a1234567", 1, 1);
        fault("()", 1, 1);
        fault("(1", 1, 2);
        fault("(1))", 1, 3);
        fault("1)", 1, 1);
        fault("1:2", 1, 1);
        fault("1*/2", 1, 2);
        fault("A1", 1, 0);
        fault("1 . 5", 1, 2);
        fault("1 + $a1 * sum(a1:b2) - ( 4 / # )", 1, 29);
    }

    private static void rows() {
        fault("a0", 4, 1);
        fault("a25", 4, 1);
        fault("$a$ 999999", 4, 4);
        fault("1+a0+#", 4, 3);
        fault("sum(a25:a1)", 4, 5);
        fault("sum(b2:b0)", 4, 8);
        fault("sum(b2:b25)", 4, 8);
        fault("#+a0", 1, 0);
    }

    private static void depth() {
        worth("(((((((1)))))))", 1);
        worth("-------1", -1);
        worth("(-(-(-(1))))", -1);
        worth("(((((((sum(a1:b1))))))))", 4);
        fault("((((((((1))))))))", 5, 8);
        fault("--------1", 5, 8);
        fault("--------a1", 5, 8);
        fault("--------$a1", 5, 8);
        fault("-------- -1", 5, 9);
        fault("((((((((sum(a1:b1)))))))))", 5, 8);
        fault("((((((((+", 1, 8);
        fault("((((((((m1", 1, 8);
        fault("((((((((abcd", 1, 8);
        fault("((((((((", 1, 8);
        fault("((((((((a99", 5, 8);
        fault("1+(((((((1))))))+1)*----(((((1)))))", 5, 28);
        worth("1+(((((((1))))))+1)*----(((1)))", 3);
    }

    private static void spans() {
        fault("sum(b2:a2)", 6, 7);
        fault("sum(b2:$a2)", 6, 8);
        fault("sum(b2:a1)", 6, 7);
        fault("sum(b2:b1)", 7, 8);
        fault("sum(b2:c$1)", 7, 9);
        fault("sum(b2:m2)", 1, 7);
        fault("sum(b2:a)", 6, 7);
        worth("sum($b$1:b1)", -3);
        worth("sum(a1:b2)+0", 7 - 3 + 100 + Integer.MAX_VALUE);
    }

    private static void values() {
        worth("1+2*3", 7);
        worth("(1+2)*3", 9);
        worth("10-2-3", 5);
        worth("100/7/2", 7);
        worth("7/2*2", 6);
        worth("b1/2", -1);
        worth("-7/2", -3);
        worth("a1/b1", -2);
        worth("b2+1", Integer.MIN_VALUE);
        worth("c1-1", Integer.MAX_VALUE);
        worth("b2*b2", 1);
        worth("-c1", Integer.MIN_VALUE);
        worth("c1/-1", Integer.MIN_VALUE);
        worth("c1/(0-1)", Integer.MIN_VALUE);
        worth("k20", 0);
        worth("sum(d4:k20)", 0);
        worth("0/a1", 0);
        worth("1+2*(3+4*(5+6*(7+8*(9+1*(2+3*(4+5*62))))))", deep());
    }

    private static int deep() {
        return 1 + 2 * (3 + 4 * (5 + 6 * (7 + 8 * (9 + (2 + 3 * (4 + 5 * 62))))));
    }

    private static void error(String text, int error) {
        Desk desk = new Desk();
        desk.put("a1", "1/0").put("b1", "b1").put("c1", 5);
        desk.put("a2", "b1").put("b2", "a1");
        desk.put("h8", text);
        Expect.same("error of '" + text + "'", desk.get("h8", Desk.ERROR), error);
        if (error != 0) {
            Expect.same("value of '" + text + "'", desk.value("h8"), 0);
        }
    }

    private static void errors() {
        error("a1", 1);
        error("b1", 2);
        error("a1+b1", 1);
        error("b1+a1", 2);
        error("1/0+b1", 1);
        error("b1+1/0", 2);
        error("1/b1", 2);
        error("b1/0", 2);
        error("b2/b1", 1);
        error("1/d1", 1);
        error("c1/(c1-5)*b1", 1);
        error("c1*(b1/(c1-5))", 2);
        error("sum(a1:b1)", 1);
        error("sum(b1:c1)", 2);
        error("sum(a1:a2)", 1);
        error("sum(b1:b2)", 2);
        error("sum(a1:b2)", 1);
        error("sum(b1:c2)", 2);
        error("0*a1", 1);
        error("-(a2)", 2);
        error("c1/1", 0);
    }

    private static void rings() {
        Desk desk = new Desk();
        desk.put("a1", "b1").put("b1", "c1+d1").put("c1", "a1").put("d1", "e1").put("e1", "f1").put("f1", "e1");
        desk.put("g1", "a1").put("h1", 4).put("i1", "h1+1/0");
        for (String name : new String[] {"a1", "b1", "c1", "d1", "e1", "f1", "g1"}) {
            Expect.same("error of " + name, desk.get(name, Desk.ERROR), 2);
        }
        Expect.same("errors", desk.doctor.count(3), 8);
        Expect.same("d1 is between two rings, in none", desk.get("d1", Desk.TOTAL), 1);
        for (String name : new String[] {"a1", "b1", "c1", "e1", "f1"}) {
            Expect.same(name + " is in one", desk.get(name, Desk.TOTAL), 0);
        }
        desk.put("e1", 3);
        Expect.same("d1 then", desk.value("d1"), 3);
        Expect.same("a1 still", desk.get("a1", Desk.ERROR), 2);
        desk.put("c1", "h1");
        Expect.same("a1 then", desk.value("a1"), 7);
        Expect.same("errors then", desk.doctor.count(3), 1);
        longChain();
        desk = new Desk();
        desk.put("b2", "sum(a1:c3)");
        Expect.same("a span over itself", desk.get("b2", Desk.ERROR), 2);
    }

    private static void longChain() {
        Desk desk = new Desk();
        desk.put("b1", "a1+1");
        for (int place = 2; place < 12; place++) {
            Expect.yes("copy", desk.doctor.copy(1, place));
        }
        for (int row = 2; row <= 24; row++) {
            desk.put("a" + row, "l" + (row - 1) + "+1");
            for (int column = 1; column < 12; column++) {
                Expect.yes("copy", desk.doctor.copy(1, 12 * (row - 1) + column));
            }
        }
        Expect.same("the chain's end", desk.value("l24"), 287);
        desk.put("a1", "l24");
        Expect.same("the chain as a ring", desk.doctor.count(3), 288);
        Expect.same("taken back", desk.doctor.undo(), 288);
        Expect.same("the end again", desk.value("l24"), 287);
    }
}
