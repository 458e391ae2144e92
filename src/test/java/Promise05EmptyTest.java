/** Promise 5: empty. */
public final class Promise05EmptyTest {
    public static void main(String[] args) {
        Desk desk = new Desk();
        desk.put("a1", 5).put("b1", "a1").put("c1", "b1+1");
        Expect.yes("empty a number", desk.doctor.empty(0));
        Expect.same("kind", desk.get("a1", Desk.KIND), 0);
        Expect.same("value", desk.value("a1"), 0);
        Expect.same("its reader", desk.value("c1"), 1);
        Expect.yes("empty a formula", desk.doctor.empty(1));
        Expect.same("kind of b1", desk.get("b1", Desk.KIND), 0);
        Expect.same("family of b1", desk.get("b1", Desk.FAMILY), -1);
        Expect.yes("empty what is so", desk.doctor.empty(287));
        Expect.same("that was done, too", desk.doctor.count(5), 6);
        for (int place : new int[] {-1, 288, Integer.MIN_VALUE, Integer.MAX_VALUE}) {
            Expect.no("empty(" + place + ")", desk.doctor.empty(place));
        }
        Expect.same("undos", desk.doctor.count(5), 6);
        Expect.end();
    }
}
