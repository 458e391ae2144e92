/** Promise 10: finding. */
public final class Promise10FindingTest {
    public static void main(String[] args) {
        ofTheLatestCheck();
        first300();
        Expect.end();
    }

    private static void ofTheLatestCheck() {
        Desk desk = new Desk();
        desk.put("b1", 1).put("c3", "sum(b1:b1)").put("b2", 4);
        Expect.same("before a check", desk.doctor.finding(0, 0), -1);
        Expect.same("check", desk.doctor.check(), 3);
        Expect.same("kind", desk.doctor.finding(1, 0), 3);
        Expect.same("place", desk.doctor.finding(1, 1), Desk.at("c3"));
        Expect.same("other", desk.doctor.finding(1, 2), Desk.at("b2"));
        desk.doctor.empty(Desk.at("b2"));
        Expect.same("told as it was", desk.doctor.finding(1, 2), Desk.at("b2"));
        for (int odd : new int[] {-1, 3, 300, Integer.MIN_VALUE, Integer.MAX_VALUE}) {
            Expect.same("finding(" + odd + ", 0)", desk.doctor.finding(odd, 0), -1);
            Expect.same("finding(0, " + odd + ")", desk.doctor.finding(0, odd), -1);
        }
        Expect.same("check anew", desk.doctor.check(), 1);
        Expect.same("the old ones are gone", desk.doctor.finding(1, 0), -1);
    }

    private static void first300() {
        Desk desk = new Desk();
        desk.put("a1", "1+1");
        for (int place = 1; place < 288; place++) {
            Expect.yes("copy", desk.doctor.copy(0, place));
        }
        desk.put("k24", "sum($a$1:$a$1)+sum($a$1:$a$1)+sum($a$1:$a$1)+sum($a$1:$a$1)");
        desk.doctor.copy(Desk.at("k24"), Desk.at("a23"));
        Expect.same("how many there are", desk.doctor.check(), 287 + 2 + 2 * (8 + 1));
        Expect.same("the 300th", desk.doctor.finding(299, 0) > 0 ? 1 : 0, 1);
        Expect.same("the 301st", desk.doctor.finding(300, 0), -1);
    }
}
