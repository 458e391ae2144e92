/** The boundaries of promises 15 to 17: cell, ways, count. */
public final class EdgesOfPromises15To17Test {
    private static final int[] NO_PLACES = {-1, 288, -2, 289, -288, Integer.MIN_VALUE, Integer.MAX_VALUE};

    public static void main(String[] args) {
        Expect.edge("15: NoSuchElementException for a PLACE", EdgesOfPromises15To17Test::noSuchPlace);
        Expect.edge("15: NoSuchElementException for a what", EdgesOfPromises15To17Test::noSuchWhat);
        Expect.edge("15: NoSuchElementException changes nothing", EdgesOfPromises15To17Test::thrownChangesNothing);
        Expect.edge("15: each what of an EMPTY cell", EdgesOfPromises15To17Test::ofEmpty);
        Expect.edge("15: each what of a NUMBER", EdgesOfPromises15To17Test::ofNumber);
        Expect.edge("15: each what of a FORMULA", EdgesOfPromises15To17Test::ofFormula);
        Expect.edge("15: each what of one with ZERO", EdgesOfPromises15To17Test::ofZero);
        Expect.edge("15: each what of one in a RING", EdgesOfPromises15To17Test::ofRing);
        Expect.edge("15: what 1 and 2, value and ERROR", EdgesOfPromises15To17Test::valueAndError);
        Expect.edge("15: what 3, FAMILY's NONE", EdgesOfPromises15To17Test::noFamily);
        Expect.edge("15: what 3, the least PLACE", EdgesOfPromises15To17Test::leastOfFamily);
        Expect.edge("15: what 8, the cells it READS", EdgesOfPromises15To17Test::cellsRead);
        Expect.edge("15: what 9, the FORMULAS that READ it", EdgesOfPromises15To17Test::readers);
        Expect.edge("15: the first and the last PLACE", EdgesOfPromises15To17Test::firstAndLast);
        Expect.edge("16: no such PLACES", EdgesOfPromises15To17Test::waysNoPlace);
        Expect.edge("16: not a TOTAL", EdgesOfPromises15To17Test::waysNoTotal);
        Expect.edge("16: no WAY is 0, not NONE", EdgesOfPromises15To17Test::noWay);
        Expect.edge("16: WAYS of 8, 9, 10", EdgesOfPromises15To17Test::waysNine);
        Expect.edge("16: WAYS of 9 by one sum( ) over TOTALS", EdgesOfPromises15To17Test::waysOfSpan);
        Expect.edge("16: WAYS beyond 32 bits", EdgesOfPromises15To17Test::waysBeyond);
        Expect.edge("16: the first and the last PLACE", EdgesOfPromises15To17Test::waysPlaces);
        Expect.edge("17: of another what", EdgesOfPromises15To17Test::countOther);
        Expect.edge("17: of a new sheet", EdgesOfPromises15To17Test::countNew);
        Expect.edge("17: 0 and 1, a full sheet", EdgesOfPromises15To17Test::countFull);
        Expect.edge("17: 2, FAMILIES", EdgesOfPromises15To17Test::countFamilies);
        Expect.edge("17: 3, cells with ERRORS", EdgesOfPromises15To17Test::countErrors);
        Expect.edge("17: 4, signs on the TAPE", EdgesOfPromises15To17Test::countSigns);
        Expect.edge("17: 5, what can be taken back", EdgesOfPromises15To17Test::countPasts);
        Expect.end();
    }

    /** The eleven answers of a cell. */
    private static String all(Desk desk, String name) {
        StringBuilder all = new StringBuilder();
        for (int what = 0; what <= 10; what++) {
            all.append(what == 0 ? "" : " ").append(desk.get(name, what));
        }
        return all.toString();
    }

    private static void noSuchPlace() {
        SheetDoctor doctor = new SheetDoctor();
        for (int place : NO_PLACES) {
            for (int what = 0; what <= 10; what++) {
                Expect.yes("cell(" + place + ", " + what + ")", Desk.cellThrows(doctor, place, what));
            }
            Expect.yes("cell(" + place + ", 11)", Desk.cellThrows(doctor, place, 11));
        }
        Expect.no("cell(0, 0)", Desk.cellThrows(doctor, 0, 0));
        Expect.no("cell(287, 0)", Desk.cellThrows(doctor, 287, 0));
    }

    private static void noSuchWhat() {
        SheetDoctor doctor = new SheetDoctor();
        for (int what : new int[] {-1, 11, -2, 12, Integer.MIN_VALUE, Integer.MAX_VALUE}) {
            Expect.yes("cell(0, " + what + ")", Desk.cellThrows(doctor, 0, what));
            Expect.yes("cell(287, " + what + ")", Desk.cellThrows(doctor, 287, what));
            Expect.yes("cell(-1, " + what + ")", Desk.cellThrows(doctor, -1, what));
        }
        for (int what = 0; what <= 10; what++) {
            Expect.no("cell(0, " + what + ")", Desk.cellThrows(doctor, 0, what));
        }
    }

    private static void thrownChangesNothing() {
        Desk desk = new Desk().put("a1", 5).put("b1", "a1");
        String before = all(desk, "a1") + " " + all(desk, "b1");
        Expect.yes("no place", Desk.cellThrows(desk.doctor, 288, 0));
        Expect.yes("no what", Desk.cellThrows(desk.doctor, 0, 11));
        Expect.same("the cells", all(desk, "a1") + " " + all(desk, "b1"), before);
        Expect.same("what can be taken back", desk.doctor.count(5), 2);
    }

    private static void ofEmpty() {
        Desk desk = new Desk();
        Expect.same("at first", all(desk, "c3"), "0 0 0 -1 0 0 0 0 0 0 0");
        desk.put("a1", "sum(a2:l24)").put("b1", "c3+c3");
        desk.doctor.keep(Desk.at("c3"), true);
        Expect.same("read and kept", all(desk, "c3"), "0 0 0 -1 0 0 0 0 0 2 1");
        desk.put("c3", 5).unit("c3", 1, 1, 1);
        desk.doctor.empty(Desk.at("c3"));
        Expect.same("emptied", all(desk, "c3"), "0 0 0 -1 0 0 0 0 0 2 1");
    }

    private static void ofNumber() {
        Desk desk = new Desk().put("c3", -8);
        Expect.same("put", all(desk, "c3"), "1 -8 0 -1 0 0 0 0 0 0 0");
        desk.unit("c3", -4, 4, 1).put("a1", "c3");
        desk.doctor.keep(Desk.at("c3"), true);
        Expect.same("with a unit, read, kept", all(desk, "c3"), "1 -8 0 -1 -4 4 1 0 0 1 1");
    }

    private static void ofFormula() {
        Desk desk = new Desk().put("a1", 3).unit("a1", 1, 2, -1).put("b1", 4).put("c3", "a1*a1/b1").put("d4", "c3");
        Expect.same("a FORMULA", all(desk, "c3"), "2 2 0 26 2 4 -2 0 2 1 0");
        Expect.same("a TOTAL", all(desk, "d4"), "2 2 0 39 2 4 -2 1 1 0 0");
        desk.doctor.keep(Desk.at("d4"), true);
        desk.put("e5", "d3");
        Expect.same("KEPT", all(desk, "d4"), "2 2 0 39 2 4 -2 1 1 0 1");
        Expect.same("not of the FAMILY", all(desk, "e5"), "2 0 0 52 0 0 0 1 1 0 0");
        desk.put("e5", "d4");
        Expect.same("of the FAMILY", all(desk, "e5"), "2 2 0 39 2 4 -2 1 1 0 0");
    }

    private static void ofZero() {
        Desk desk = new Desk().put("a1", 3).unit("a1", 1, 0, 0).put("b1", "a1/0").put("c1", "b1+b1+sum(a1:b1)");
        Expect.same("its own", all(desk, "b1"), "2 0 1 1 1 0 0 0 1 1 0");
        Expect.same("what reads it", all(desk, "c1"), "2 0 1 2 1 0 0 1 2 0 0");
    }

    private static void ofRing() {
        Desk desk = new Desk().put("a1", 3).unit("a1", 1, 0, 0).put("b1", "a1*c1").put("c1", "b1").put("d1", "c1+c1");
        Expect.same("in a RING", all(desk, "b1"), "2 0 2 1 0 0 0 0 2 1 0");
        Expect.same("a sum in a RING", all(desk, "c1"), "2 0 2 2 0 0 0 0 1 2 0");
        Expect.same("what reads a RING", all(desk, "d1"), "2 0 2 3 0 0 0 1 1 0 0");
    }

    private static void valueAndError() {
        Desk desk = new Desk().put("a1", "0/1").put("b1", "0/0").put("c1", "c1").put("d1", 0);
        Expect.same("0 without an ERROR", desk.value("a1") + " " + desk.get("a1", Desk.ERROR), "0 0");
        Expect.same("0 with ZERO", desk.value("b1") + " " + desk.get("b1", Desk.ERROR), "0 1");
        Expect.same("0 with RING", desk.value("c1") + " " + desk.get("c1", Desk.ERROR), "0 2");
        Expect.same("a NUMBER of 0", desk.value("d1") + " " + desk.get("d1", Desk.ERROR), "0 0");
    }

    private static void noFamily() {
        Desk desk = new Desk().put("a1", 5).put("b1", "5");
        Expect.same("of a NUMBER", desk.get("a1", Desk.FAMILY), -1);
        Expect.same("of an EMPTY cell", desk.get("c1", Desk.FAMILY), -1);
        Expect.same("of a FORMULA alone", desk.get("b1", Desk.FAMILY), 1);
        desk.put("b1", 5);
        Expect.same("of a FORMULA no more", desk.get("b1", Desk.FAMILY), -1);
    }

    private static void leastOfFamily() {
        Desk desk = new Desk().put("l24", "5").put("f12", "5");
        Expect.same("of two", desk.get("l24", Desk.FAMILY) + " " + desk.get("f12", Desk.FAMILY), "137 137");
        desk.put("a1", "5");
        Expect.same("the first place", desk.get("l24", Desk.FAMILY) + " " + desk.get("a1", Desk.FAMILY), "0 0");
        desk.put("a1", "6");
        Expect.same("it is another's now", desk.get("l24", Desk.FAMILY) + " " + desk.get("a1", Desk.FAMILY), "137 0");
        desk.doctor.empty(Desk.at("f12"));
        Expect.same("the last place alone", desk.get("l24", Desk.FAMILY), 287);
    }

    private static void reads(String text, int cells) {
        Desk desk = new Desk().put("h8", text);
        Expect.same(text, desk.get("h8", Desk.READS), cells);
    }

    private static void cellsRead() {
        reads("7", 0);
        reads("a1", 1);
        reads("a1+a1", 1);
        reads("a1+$a$1*a$1", 1);
        reads("a1+a2", 2);
        reads("sum(a1:a1)", 1);
        reads("sum(a1:b3)", 6);
        reads("sum(a1:b3)+sum(b2:c4)", 10);
        reads("sum(a1:b3)+b2+c1", 7);
        reads("h8", 1);
        reads("sum(a1:l24)", 288);
        reads("sum(a1:l24)+sum(a1:l24)+a1", 288);
    }

    private static void readers() {
        Desk desk = new Desk().put("a1", 1);
        Expect.same("none", desk.get("a1", Desk.READERS), 0);
        desk.put("b1", "a1");
        Expect.same("one", desk.get("a1", Desk.READERS), 1);
        desk.put("b1", "a1+a1*sum(a1:a3)");
        Expect.same("one that reads it often", desk.get("a1", Desk.READERS), 1);
        desk.put("c1", "b1").put("d1", "sum(a1:a2)").put("e1", "0*a1");
        Expect.same("three, not what reads those", desk.get("a1", Desk.READERS), 3);
        desk.put("a1", "a1");
        Expect.same("itself, too", desk.get("a1", Desk.READERS), 4);
        Expect.same("an EMPTY cell", desk.get("a2", Desk.READERS) + " " + desk.get("a4", Desk.READERS), "2 0");
        desk = new Desk().put("a1", "sum($a$1:$l$24)");
        for (int place = 1; place < 288; place++) {
            desk.doctor.copy(0, place);
        }
        Expect.same("all", desk.get("a1", Desk.READERS) + " " + desk.get("l24", Desk.READERS), "288 288");
    }

    private static void firstAndLast() {
        Desk desk = new Desk().put("a1", "l24+l24").put("l24", 6).unit("l24", 1, 1, 1);
        desk.doctor.keep(0, true);
        desk.doctor.keep(287, true);
        Expect.same("the first", all(desk, "a1"), "2 12 0 0 1 1 1 1 1 0 1");
        Expect.same("the last", all(desk, "l24"), "1 6 0 -1 1 1 1 0 0 1 1");
        desk.put("l24", "a2/0").put("a1", 2).unit("a1", 0, 0, -4);
        Expect.same("the first then", all(desk, "a1"), "1 2 0 -1 0 0 -4 0 0 0 1");
        Expect.same("the last then", all(desk, "l24"), "2 0 1 287 0 0 0 0 1 0 1");
    }

    private static void waysNoPlace() {
        Desk desk = new Desk().put("a1", 1).put("l24", "a1");
        for (int place : NO_PLACES) {
            Expect.same("from " + place, desk.doctor.ways(place, 287), -1);
            Expect.same("into " + place, desk.doctor.ways(0, place), -1);
            Expect.same("both " + place, desk.doctor.ways(place, place), -1);
        }
    }

    private static void waysNoTotal() {
        Desk desk = new Desk().put("a1", 1).put("b1", "a1*1").put("c1", "(a1)").put("d1", "d1+a1").put("e1", "7");
        for (String name : new String[] {"a1", "b1", "c1", "d1", "e1", "f1"}) {
            Expect.same("into " + name, desk.ways("a1", name), -1);
            Expect.same("of an EMPTY one into " + name, desk.ways("k20", name), -1);
        }
    }

    private static void noWay() {
        Desk desk = new Desk().put("a1", 1).put("b1", "a1").put("c1", "b1").put("d1", "k20");
        Expect.same("not read", desk.ways("a1", "d1"), 0);
        Expect.same("a TOTAL", desk.ways("b1", "c1"), 0);
        Expect.same("itself", desk.ways("c1", "c1"), 0);
        Expect.same("backwards", desk.ways("c1", "b1"), 0);
        Expect.same("EMPTY", desk.ways("k20", "d1"), 0);
    }

    private static void waysNine() {
        Desk desk = new Desk().put("a1", 1);
        for (int times = 1; times <= 12; times++) {
            desk.put("b1", "a1" + "+a1".repeat(times - 1));
            Expect.same(times + " times", desk.ways("a1", "b1"), Math.min(times, 9));
        }
        desk.put("b1", "a1+a1+a1").put("c1", "b1+b1+b1").put("d1", "b1+b1+a1+a1").put("e1", "c1+c1");
        Expect.same("3 times 3", desk.ways("a1", "c1"), 9);
        Expect.same("2 times 3 and 2", desk.ways("a1", "d1"), 8);
        Expect.same("2 times 9", desk.ways("a1", "e1"), 9);
        Expect.same("the longest sum", waysOfLongest(), 9);
    }

    private static int waysOfLongest() {
        Desk desk = new Desk().put("a1", 1).put("b1", "a1" + "+a1".repeat(39));
        return desk.ways("a1", "b1");
    }

    private static void waysOfSpan() {
        Desk desk = new Desk().put("a1", 1);
        for (int row = 1; row <= 24; row++) {
            desk.put("b" + row, "$a$1");
        }
        desk.put("c1", "sum(b1:b8)").put("c2", "sum(b1:b9)").put("c3", "sum(b1:b10)").put("c4", "sum(b1:b24)");
        Expect.same("8, 9, 10, 24", desk.ways("a1", "c1") + " " + desk.ways("a1", "c2") + " " + desk.ways("a1", "c3")
                + " " + desk.ways("a1", "c4"), "8 9 9 9");
    }

    private static void waysBeyond() {
        Desk desk = new Desk().put("a1", 1).put("b1", "a1+a1");
        String last = "b1";
        for (int i = 2; i <= 70; i++) {
            String next = (char) ('b' + i % 4) + String.valueOf(1 + i / 4);
            desk.put(next, last + "+" + last);
            last = next;
            if (i == 31 || i == 32 || i == 33 || i >= 63) {
                Expect.same("2 to the " + i, desk.ways("a1", last), 9);
            }
        }
        Expect.same("TWICE still", desk.findings().contains("4 " + last + " a1") ? 1 : 0, 1);
    }

    private static void waysPlaces() {
        Desk desk = new Desk().put("a1", 1).put("l24", "a1+a1");
        Expect.same("from the first into the last", desk.doctor.ways(0, 287), 2);
        desk.put("l24", 1).put("a1", "sum(a2:l24)+sum(b2:l24)+l24");
        Expect.same("from the last into the first", desk.doctor.ways(287, 0), 3);
    }

    private static void countOther() {
        Desk desk = new Desk().put("a1", 1).put("b1", "1/0");
        for (int what : new int[] {-1, 6, -2, 7, 10, Integer.MIN_VALUE, Integer.MAX_VALUE}) {
            Expect.same("count(" + what + ")", desk.doctor.count(what), -1);
        }
    }

    private static void countNew() {
        SheetDoctor doctor = new SheetDoctor();
        for (int what = 0; what <= 5; what++) {
            Expect.same("count(" + what + ")", doctor.count(what), 0);
        }
    }

    private static void countFull() {
        Desk desk = new Desk();
        for (int place = 0; place < 288; place++) {
            desk.doctor.number(place, place);
        }
        Expect.same("NUMBERS", desk.doctor.count(0) + " " + desk.doctor.count(1), "288 0");
        desk = new Desk().put("a1", "7");
        for (int place = 1; place < 288; place++) {
            desk.doctor.copy(0, place);
        }
        Expect.same("FORMULAS", desk.doctor.count(0) + " " + desk.doctor.count(1), "0 288");
        Expect.same("all of one FAMILY", desk.doctor.count(2), 1);
        desk.put("f12", 7);
        desk.doctor.empty(0);
        Expect.same("one of each less", desk.doctor.count(0) + " " + desk.doctor.count(1), "1 286");
    }

    private static void countFamilies() {
        Desk desk = new Desk();
        for (int i = 0; i < 100; i++) {
            desk.feed(String.valueOf(i));
            desk.doctor.formula(i);
        }
        Expect.same("each its own", desk.doctor.count(2), 100);
        desk.copy("a1", "b1");
        Expect.same("one less", desk.doctor.count(2), 99);
        desk.put("a1", 5);
        Expect.same("its copy is left of it", desk.doctor.count(2), 99);
        desk.put("b1", 5);
        Expect.same("none is left of it", desk.doctor.count(2), 98);
    }

    private static void countErrors() {
        Desk desk = new Desk().put("a1", "1/0").put("b1", "a1").put("c1", "c1").put("d1", "c1").put("e1", "0/1");
        Expect.same("ZERO and RING, own and read", desk.doctor.count(3), 4);
        desk.put("a1", "a1").put("c1", 1);
        Expect.same("as many as are left", desk.doctor.count(3), 2);
        desk.doctor.empty(0);
        Expect.same("none", desk.doctor.count(3), 0);
    }

    private static void countSigns() {
        Desk desk = new Desk();
        for (int signs = 1; signs <= 125; signs++) {
            desk.doctor.feed(0x20, 0, 0);
            Expect.same("after " + signs, desk.doctor.count(4), Math.min(signs, 120));
        }
        desk.doctor.formula(0);
        Expect.same("taken", desk.doctor.count(4), 0);
    }

    private static void countPasts() {
        Desk desk = new Desk();
        for (int calls = 1; calls <= 25; calls++) {
            desk.put("a1", calls);
            Expect.same("after " + calls, desk.doctor.count(5), Math.min(calls, 20));
        }
        for (int left = 19; left >= 0; left--) {
            desk.doctor.undo();
            Expect.same("left", desk.doctor.count(5), left);
        }
        desk.doctor.undo();
        Expect.same("never less than none", desk.doctor.count(5), 0);
    }
}
