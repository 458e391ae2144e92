/** Promise 4: number. */
public final class Promise04NumberTest {
    public static void main(String[] args) {
        Desk desk = new Desk();
        for (int v : new int[] {0, 1, -1, Integer.MAX_VALUE, Integer.MIN_VALUE}) {
            Expect.yes("number", desk.doctor.number(287, v));
            Expect.same("kind", desk.get("l24", Desk.KIND), 1);
            Expect.same("value", desk.value("l24"), v);
        }
        Expect.same("numbers", desk.doctor.count(0), 1);
        Expect.same("undos", desk.doctor.count(5), 5);
        desk.put("a1", "1/0").put("a1", 9);
        Expect.same("in a formula's stead", desk.value("a1"), 9);
        Expect.same("its error", desk.get("a1", Desk.ERROR), 0);
        Expect.same("formulas", desk.doctor.count(1), 0);
        desk.put("b1", 3).unit("b1", 1, 2, 3).put("b1", 3);
        Expect.same("its unit is gone", desk.unitOf("b1"), "0 0 0");
        int undos = desk.doctor.count(5);
        for (int place : new int[] {-1, 288, Integer.MIN_VALUE, Integer.MAX_VALUE}) {
            Expect.no("number(" + place + ")", desk.doctor.number(place, 1));
        }
        Expect.same("undos as before", desk.doctor.count(5), undos);
        Expect.same("numbers as before", desk.doctor.count(0), 3);
        Expect.end();
    }
}
