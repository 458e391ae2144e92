/** Promise 8: keep. */
public final class Promise08KeepTest {
    public static void main(String[] args) {
        Desk desk = new Desk();
        Expect.yes("keep an empty cell", desk.doctor.keep(0, true));
        Expect.same("it is kept", desk.get("a1", Desk.KEPT), 1);
        desk.put("a1", 5).put("b1", 6);
        Expect.same("whatever is put there", desk.get("a1", Desk.KEPT), 1);
        Expect.same("only b1 is dead", desk.findings(), "5 b1 -");
        desk.put("a1", "b1");
        desk.doctor.undo();
        desk.doctor.undo();
        Expect.same("taken back, still kept", desk.get("a1", Desk.KEPT), 1);
        desk.doctor.empty(0);
        Expect.yes("no more", desk.doctor.keep(0, false));
        Expect.same("not kept", desk.get("a1", Desk.KEPT), 0);
        Expect.yes("again", desk.doctor.keep(1, true));
        Expect.yes("and again", desk.doctor.keep(1, true));
        Expect.yes("a copy", desk.copy("b1", "c1"));
        Expect.same("a copy is not kept", desk.get("c1", Desk.KEPT), 0);
        int undos = desk.doctor.count(5);
        Expect.yes("the last place", desk.doctor.keep(287, true));
        Expect.same("nothing to take back", desk.doctor.count(5), undos);
        for (int place : new int[] {-1, 288, Integer.MIN_VALUE, Integer.MAX_VALUE}) {
            Expect.no("keep(" + place + ")", desk.doctor.keep(place, true));
            Expect.no("keep(" + place + ")", desk.doctor.keep(place, false));
        }
        Expect.end();
    }
}
