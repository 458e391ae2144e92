/** Promise 7: unit, with the units of formulas and their clashes. */
public final class Promise07UnitTest {
    public static void main(String[] args) {
        told();
        refused();
        ofFormulas();
        clashes();
        wraps();
        Expect.end();
    }

    private static void told() {
        Desk desk = new Desk();
        desk.put("a1", 5);
        Expect.same("at first", desk.unitOf("a1"), "0 0 0");
        desk.unit("a1", -4, 0, 4);
        Expect.same("told", desk.unitOf("a1"), "-4 0 4");
        Expect.same("the value stays", desk.value("a1"), 5);
        desk.unit("a1", 4, -4, 1);
        Expect.same("told again", desk.unitOf("a1"), "4 -4 1");
        Expect.same("it is nothing to take back", desk.doctor.count(5), 1);
        desk.put("a1", 5);
        Expect.same("put anew", desk.unitOf("a1"), "0 0 0");
    }

    private static void refused() {
        Desk desk = new Desk();
        desk.put("a1", 5).unit("a1", 1, 1, 1).put("b1", "a1");
        for (int other : new int[] {-5, 5, Integer.MIN_VALUE, Integer.MAX_VALUE}) {
            Expect.no("first", desk.doctor.unit(0, other, 0, 0));
            Expect.no("second", desk.doctor.unit(0, 0, other, 0));
            Expect.no("third", desk.doctor.unit(0, 0, 0, other));
        }
        Expect.no("of a formula", desk.doctor.unit(1, 0, 0, 0));
        Expect.no("of an empty cell", desk.doctor.unit(2, 0, 0, 0));
        Expect.no("of no cell", desk.doctor.unit(-1, 0, 0, 0));
        Expect.no("of no cell above", desk.doctor.unit(288, 0, 0, 0));
        Expect.same("as it was", desk.unitOf("a1"), "1 1 1");
        Expect.same("a formula's own", desk.unitOf("b1"), "1 1 1");
    }

    /** a1 and b1 are numbers with units, c1 one without, d1 is empty, e1 in a ring. */
    private static Desk units() {
        Desk desk = new Desk();
        desk.put("a1", 6).unit("a1", 1, 0, 0).put("b1", 3).unit("b1", 0, 2, -1).put("c1", 2).put("e1", "e1*a1");
        desk.put("a2", 1).unit("a2", 1, 0, 0);
        return desk;
    }

    private static void unitOf(String text, String unit, boolean clash) {
        Desk desk = units();
        desk.put("h8", text);
        Expect.same("unit of " + text, desk.unitOf("h8"), unit);
        Expect.same("clash of " + text, desk.findings().contains("6 h8 -") ? 1 : 0, clash ? 1 : 0);
    }

    private static void ofFormulas() {
        unitOf("a1", "1 0 0", false);
        unitOf("7", "0 0 0", false);
        unitOf("d1", "0 0 0", false);
        unitOf("a1*b1", "1 2 -1", false);
        unitOf("a1/b1", "1 -2 1", false);
        unitOf("a1/b1/a1*b1", "0 0 0", false);
        unitOf("a1/(b1*a1)", "0 -2 1", false);
        unitOf("-b1", "0 2 -1", false);
        unitOf("-(b1*2)", "0 2 -1", false);
        unitOf("a1+a2-a1", "1 0 0", false);
        unitOf("sum(a1:a2)", "1 0 0", false);
        unitOf("sum(a1:a9)", "1 0 0", false);
        unitOf("sum(d1:d9)", "0 0 0", false);
        unitOf("sum(a2:d4)*b1", "1 2 -1", false);
        unitOf("a1/0", "1 0 0", false);
        unitOf("c1+c1*(c1+c1*(c1+c1*(c1+c1*(c1+c1*(c1+c1*(c1+c1*c1))))))", "0 0 0", false);
        unitOf("a1/a1+a1*(1/a1+b1*(1/a1/b1+c1*(1/a1/b1+c1*(1/b1/a1+b1*(1/a1/b1/b1)))))", "0 0 0", false);
        unitOf("e1", "0 0 0", false);
        unitOf("1+e1", "0 0 0", false);
    }

    private static void clashes() {
        unitOf("a1+1", "1 0 0", true);
        unitOf("1+a1", "0 0 0", true);
        unitOf("a1-b1", "1 0 0", true);
        unitOf("a1+d1", "1 0 0", true);
        unitOf("a1+a2+b1", "1 0 0", true);
        unitOf("sum(a1:b1)", "1 0 0", true);
        unitOf("sum(b1:c1)", "0 2 -1", true);
        unitOf("sum(a1:b2)", "1 0 0", true);
        unitOf("2*(a1+b1)*a1", "2 0 0", true);
        unitOf("a1*a1+a1", "2 0 0", true);
        unitOf("a1/0+b1", "1 0 0", true);
        Desk desk = units();
        Expect.same("a ring does not clash", desk.findings().contains("6 ") ? 1 : 0, 0);
        desk.put("h8", "a1+b1").put("h9", "h8*1+a1").put("i9", "i9+a1");
        Expect.same("only where they are joined", desk.findingsButDead(), "6 h8 -");
    }

    private static void wraps() {
        Desk desk = new Desk();
        desk.put("a1", 1).unit("a1", 4, -4, 1);
        String last = "a1";
        for (int row = 2; row <= 24; row++) {
            desk.put("a" + row, last + "*" + last + "*" + last + "*" + last);
            last = "a" + row;
        }
        Expect.same("4 to the 15", desk.unitOf("a15"), (1 << 30) + " " + -(1 << 30) + " " + (1 << 28));
        Expect.same("4 to the 16 and on", desk.unitOf("a16"), "0 0 1073741824");
        desk.put("b1", "a15*a15");
        Expect.same("over the top", desk.unitOf("b1"), Integer.MIN_VALUE + " " + Integer.MIN_VALUE + " " + (1 << 29));
    }
}
