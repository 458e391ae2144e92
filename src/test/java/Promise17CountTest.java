/** Promise 17: count. */
public final class Promise17CountTest {
    public static void main(String[] args) {
        Desk desk = new Desk();
        desk.put("a1", 1).put("a2", 0).put("b1", "a1").put("b2", "a2").put("c1", "1/a2").put("d1", "c1").put("e1", "e1");
        desk.feed("1 + 1");
        String counts = "";
        for (int what = 0; what <= 5; what++) {
            counts += desk.doctor.count(what) + " ";
        }
        Expect.same("counts", counts, "2 5 3 3 5 7 ");
        for (int what : new int[] {-1, 6, Integer.MIN_VALUE, Integer.MAX_VALUE}) {
            Expect.same("count(" + what + ")", desk.doctor.count(what), -1);
        }
        desk.doctor.formula(-1);
        Expect.same("the tape", desk.doctor.count(4), 0);
        desk.doctor.empty(Desk.at("b2"));
        Expect.same("families as before", desk.doctor.count(2), 3);
        desk.put("e1", "d1");
        Expect.same("one more of a family, and a family less", desk.doctor.count(2), 2);
        Expect.same("errors: of division all", desk.doctor.count(3), 3);
        desk.put("a2", 1);
        Expect.same("no errors", desk.doctor.count(3), 0);
        Expect.end();
    }
}
