/** Promise 16: ways. */
public final class Promise16WaysTest {
    public static void main(String[] args) {
        ways();
        many();
        none();
        Expect.end();
    }

    private static void ways() {
        Desk desk = new Desk();
        desk.put("a1", 1).put("a2", 2).put("a3", "sum(a1:a2)").put("b1", "a3*2").put("c1", "a3+a3+b1+sum(a1:b1)");
        Expect.same("by a total twice, by a span", desk.ways("a1", "c1"), 3);
        Expect.same("by a total twice", desk.ways("a2", "c1"), 2);
        Expect.same("a formula that is none", desk.ways("b1", "c1"), 2);
        Expect.same("a total itself", desk.ways("a3", "c1"), 0);
        Expect.same("into itself", desk.ways("c1", "c1"), 0);
        Expect.same("an empty cell", desk.ways("d1", "c1"), 0);
        Expect.same("not backwards", desk.ways("b1", "a3"), 0);
        Expect.same("one way", desk.ways("a1", "a3"), 1);
        desk.put("d1", "d1").put("e1", "d1+d1+d1");
        Expect.same("one in a ring", desk.ways("d1", "e1"), 3);
        desk.put("e2", "sum(h1:h3)").put("e3", "e2+h1");
        Expect.same("an empty cell of a span", desk.ways("h1", "e3"), 0);
        desk.put("h1", 0);
        Expect.same("a number 0 is not empty", desk.ways("h1", "e3"), 2);
    }

    private static void many() {
        Desk desk = new Desk();
        desk.put("a1", 1).put("b1", "a1+a1").put("c1", "b1+b1").put("d1", "c1+c1").put("e1", "d1+a1");
        desk.put("f1", "d1+b1").put("g1", "d1+a1+a1+a1");
        Expect.same("4", desk.ways("a1", "c1"), 4);
        Expect.same("8", desk.ways("a1", "d1"), 8);
        Expect.same("9", desk.ways("a1", "e1"), 9);
        Expect.same("9 for 10", desk.ways("a1", "f1"), 9);
        Expect.same("9 for 11", desk.ways("a1", "g1"), 9);
        String last = "g1";
        for (int row = 2; row <= 24; row++) {
            desk.put("a" + row, last + "+" + last + "+" + last + "+" + last);
            last = "a" + row;
        }
        Expect.same("9 for very many", desk.ways("a1", last), 9);
        Expect.same("twice", desk.findingsButDead().endsWith("4 a24 a1") ? 1 : 0, 1);
    }

    private static void none() {
        Desk desk = new Desk();
        desk.put("a1", 1).put("b1", "a1").put("c1", "a1*1").put("d1", "d1");
        Expect.same("a total", desk.ways("a1", "b1"), 1);
        for (int place : new int[] {-1, 288, Integer.MIN_VALUE, Integer.MAX_VALUE}) {
            Expect.same("from " + place, desk.doctor.ways(place, 1), -1);
            Expect.same("into " + place, desk.doctor.ways(0, place), -1);
        }
        Expect.same("into a number", desk.ways("a1", "a1"), -1);
        Expect.same("into an empty cell", desk.ways("a1", "e1"), -1);
        Expect.same("into another formula", desk.ways("a1", "c1"), -1);
        Expect.same("into a ring", desk.ways("d1", "d1"), -1);
    }
}
