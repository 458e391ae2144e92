/** Promise 9: check, with each kind of finding. */
public final class Promise09CheckTest {
    public static void main(String[] args) {
        odd();
        typed();
        shortSpans();
        shortEdges();
        twice();
        dead();
        order();
        Expect.end();
    }

    private static void odd() {
        Desk desk = new Desk();
        desk.put("b2", "b1").put("c2", "c1+1").put("d2", "d1");
        Expect.same("between left and right", desk.findingsButDead(), "1 c2 b2");
        desk.put("c2", "c1");
        Expect.same("of the family", desk.findingsButDead(), "");
        desk.put("c2", "d1").put("d2", "e1");
        Expect.same("neighbours of two families", desk.findingsButDead(), "");
        desk = new Desk();
        desk.put("c2", "b2").put("c3", "a3*2").put("c4", "b4");
        Expect.same("between upper and lower", desk.findingsButDead(), "1 c3 c2");
        desk.put("b3", "k1").put("d3", "k1");
        Expect.same("left and right of two families", desk.findingsButDead(), "1 c3 c2");
        desk.put("b3", "$k1").put("d3", "$k1");
        Expect.same("left and right go first", desk.findingsButDead(), "1 c3 b3");
        desk.put("c3", "$k1");
        Expect.same("of the one, not of the other", desk.findingsButDead(), "1 c3 c2");
        edges();
    }

    private static void edges() {
        Desk desk = new Desk();
        desk.put("l1", "1").put("a2", "2").put("b2", "1");
        Expect.same("a row's end is no neighbour", desk.findingsButDead(), "");
        desk = new Desk();
        desk.put("k1", "1").put("l1", "2").put("a2", "1");
        Expect.same("nor its beginning", desk.findingsButDead(), "");
        desk = new Desk();
        desk.put("a22", "1").put("a23", "2").put("a24", "1").put("l1", "1").put("l2", "2").put("l3", "1");
        Expect.same("at the sheet's sides", desk.findingsButDead(), "1 l2 l1, 1 a23 a22");
    }

    private static void typed() {
        Desk desk = new Desk();
        desk.put("b2", "b1").put("c2", 4).put("d2", "d1");
        Expect.same("between left and right", desk.findingsButDead(), "2 c2 b2");
        desk.doctor.empty(Desk.at("c2"));
        Expect.same("an empty cell", desk.findingsButDead(), "");
        desk.put("c2", 4).put("d2", 5);
        Expect.same("a number beside", desk.findingsButDead(), "");
        desk.put("c1", "$k1").put("c3", "$k3");
        Expect.same("between upper and lower", desk.findingsButDead(), "2 c2 c1");
    }

    private static void shortSpans() {
        Desk desk = new Desk();
        desk.put("b2", 1).put("b3", 2).put("b4", 3).put("h8", "sum(b2:b3)");
        Expect.same("a number below", desk.findingsButDead(), "3 h8 b4");
        desk.put("b4", "$a$1");
        Expect.same("a formula below a number", desk.findingsButDead(), "");
        desk.put("b3", "$a$1");
        Expect.same("a formula of the last one's family", desk.findingsButDead(), "3 h8 b4");
        desk.put("b3", "$a$1+1");
        Expect.same("one of another", desk.findingsButDead(), "");
        desk.put("b3", "$a$1").put("b2", "$a$1").put("b4", 3);
        Expect.same("a number below formulas is typed, too?", desk.findingsButDead(), "3 h8 b4");
        desk = new Desk();
        desk.put("b2", 1).put("c2", 2).put("d2", 3).put("b3", 9).put("c3", 9).put("h8", "sum(b2:c2)");
        Expect.same("right of a row", desk.findingsButDead(), "3 h8 d2");
        desk.put("h8", "sum(b2:c3)");
        Expect.same("a block", desk.findingsButDead(), "");
        desk.put("h8", "sum(b2:b2)+1-sum($c$2:$c$2)*(sum(d2:d2))");
        Expect.same("one cell goes both ways, of each sum in order", desk.findingsButDead(),
                "3 h8 b3, 3 h8 c2, 3 h8 c3, 3 h8 d2");
        desk.put("h8", "b2");
        Expect.same("a lone one is no span", desk.findingsButDead(), "");
    }

    private static void shortEdges() {
        Desk desk = new Desk();
        desk.put("a24", 1).put("b24", 1).put("l1", 1).put("l2", 1).put("a2", 5);
        desk.put("h8", "sum(a23:a24)+sum(k1:l1)");
        Expect.same("off the sheet there is nothing", desk.findingsButDead(), "");
        desk = new Desk();
        desk.put("c3", "sum(c1:c2)").put("c1", 5).put("e1", "sum(c1:d1)");
        Expect.same("its own cell is none", desk.findingsButDead(), "");
        desk.put("c3", 4).put("c4", "sum(c1:c2)");
        Expect.same("another is", desk.findingsButDead(), "3 c4 c3");
    }

    private static void twice() {
        Desk desk = new Desk();
        desk.put("a1", 4).put("a2", 5).put("a3", "sum(a1:a2)").put("b1", "a3+a2");
        Expect.same("by a total", desk.findingsButDead(), "4 b1 a2");
        desk.put("b1", "a3*1+a2");
        Expect.same("not a total", desk.findingsButDead(), "");
        desk.put("b1", "a3+a3");
        Expect.same("a total twice", desk.findingsButDead(), "4 b1 a1");
        desk.put("b1", "d1+d1");
        Expect.same("an empty cell", desk.findingsButDead(), "");
        desk.put("b1", "d1+d1").put("d1", "a1*2");
        Expect.same("a formula that is none", desk.findingsButDead(), "4 b1 d1");
        desk.put("d1", "d1");
        Expect.same("one in a ring", desk.findingsButDead(), "4 b1 d1");
        desk.put("b1", "sum(a1:a2)+sum(a1:b4)");
        Expect.same("in a ring itself", desk.findingsButDead().contains("4 ") ? 1 : 0, 0);
        desk.put("l20", "l10+l10").put("l10", "sum(k1:k9)").put("k5", 1);
        Expect.same("further down", desk.findingsButDead().endsWith("4 l20 k5") ? 1 : 0, 1);
        desk = new Desk();
        desk.put("l24", "l10+l10+a1").put("l10", "sum(k11:l23)").put("l23", 1).put("k23", 0).put("a1", "k23*1");
        Expect.same("far down", desk.findingsButDead(), "4 l24 k23");
    }

    private static void dead() {
        Desk desk = new Desk();
        desk.put("a1", 1).put("b1", "a1").put("c1", "c1").put("d1", "sum(e1:f1)").put("f1", 0);
        Expect.same("dead ones", desk.findings(), "5 b1 -, 5 d1 -");
        desk.doctor.keep(Desk.at("b1"), true);
        Expect.same("one kept", desk.findings(), "5 d1 -");
        desk = new Desk();
        desk.put("a1", 1).put("l24", "2");
        Expect.same("at the first place and the last", desk.findings(), "5 a1 -, 5 l24 -");
    }

    private static void order() {
        Desk desk = new Desk();
        desk.put("b2", "sum(i2:i2)").put("d2", "sum(k2:k2)").put("c2", "sum(i3:i3)+sum(i3:i3)");
        desk.put("i3", 2).put("i4", 1).put("j3", 1).unit("i4", 1, 0, 0);
        desk.put("c9", "sum(i3:i4)+1");
        Expect.same("by places, then by kinds", desk.findings(),
                "3 b2 i3, 5 b2 -, 1 c2 b2, 3 c2 i4, 3 c2 j3, 3 c2 i4, 3 c2 j3, 4 c2 i3, 5 c2 -, 5 d2 -, 5 j3 -, 5 c9 -, 6 c9 -");
        Expect.same("how many", desk.doctor.check(), 13);
        Expect.same("again", desk.doctor.check(), 13);
    }
}
