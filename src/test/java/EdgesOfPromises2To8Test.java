/** The boundaries of promises 2 to 8: feed, formula, number, empty, copy, unit, keep, and what they refuse. */
public final class EdgesOfPromises2To8Test {
    private static final int[] NO_PLACES = {-1, 288, -2, 289, -288, 300, Integer.MIN_VALUE, Integer.MAX_VALUE};

    public static void main(String[] args) {
        Expect.edge("2: no sign at all", EdgesOfPromises2To8Test::noSign);
        Expect.edge("2: 24 signs at once", EdgesOfPromises2To8Test::allSigns);
        Expect.edge("2: the highest byte first", EdgesOfPromises2To8Test::highestFirst);
        Expect.edge("2: signs that are left out", EdgesOfPromises2To8Test::leftOut);
        Expect.edge("2: the TAPE full", EdgesOfPromises2To8Test::full);
        Expect.edge("2: the TAPE fuller than that", EdgesOfPromises2To8Test::beyond);
        Expect.edge("3: the first and the last PLACE", EdgesOfPromises2To8Test::formulaPlaces);
        Expect.edge("3: no such PLACE", EdgesOfPromises2To8Test::formulaNoPlace);
        Expect.edge("3: no such PLACE and a FAULT", EdgesOfPromises2To8Test::formulaNoPlaceAndFault);
        Expect.edge("3: the TAPE is empty after a refused formula()", EdgesOfPromises2To8Test::formulaRefused);
        Expect.edge("3: a refused formula() leaves the cell", EdgesOfPromises2To8Test::formulaLeaves);
        Expect.edge("3: an empty TAPE", EdgesOfPromises2To8Test::formulaOfNothing);
        Expect.edge("4: the first and the last PLACE", EdgesOfPromises2To8Test::numberPlaces);
        Expect.edge("4: no such PLACE", EdgesOfPromises2To8Test::numberNoPlace);
        Expect.edge("4: the least and the most", EdgesOfPromises2To8Test::numberRange);
        Expect.edge("5: the first and the last PLACE", EdgesOfPromises2To8Test::emptyPlaces);
        Expect.edge("5: no such PLACE", EdgesOfPromises2To8Test::emptyNoPlace);
        Expect.edge("5: a cell that is EMPTY", EdgesOfPromises2To8Test::emptyTwice);
        Expect.edge("6: the first and the last PLACE", EdgesOfPromises2To8Test::copyPlaces);
        Expect.edge("6: no such PLACES", EdgesOfPromises2To8Test::copyNoPlace);
        Expect.edge("6: a COPY that can't be leaves the cell", EdgesOfPromises2To8Test::copyRefused);
        Expect.edge("7: -4 .. 4", EdgesOfPromises2To8Test::unitRange);
        Expect.edge("7: outside -4 .. 4", EdgesOfPromises2To8Test::unitOutside);
        Expect.edge("7: no NUMBER", EdgesOfPromises2To8Test::unitOfOthers);
        Expect.edge("7: no such PLACE", EdgesOfPromises2To8Test::unitNoPlace);
        Expect.edge("8: the first and the last PLACE", EdgesOfPromises2To8Test::keepPlaces);
        Expect.edge("8: no such PLACE", EdgesOfPromises2To8Test::keepNoPlace);
        Expect.edge("8: kept twice, let go twice", EdgesOfPromises2To8Test::keepTwice);
        Expect.edge("8: whatever is put there", EdgesOfPromises2To8Test::keepWhatever);
        Expect.end();
    }

    /** What is told of the sheet and of some of its cells: a refused call leaves it as it is. */
    private static String state(SheetDoctor doctor) {
        StringBuilder state = new StringBuilder();
        for (String name : new String[] {"a1", "b1", "c1", "f12", "a24", "k24", "l24"}) {
            for (int what = 0; what <= 10; what++) {
                state.append(doctor.cell(Desk.at(name), what)).append(' ');
            }
        }
        for (int what = 0; what <= 5; what++) {
            state.append(doctor.count(what)).append(' ');
        }
        return state.toString();
    }

    /** A sheet with something at its first and its last place, and with signs on the tape. */
    private static Desk sheet() {
        Desk desk = new Desk().put("a1", 5).unit("a1", 1, 2, 3).put("l24", "a1+1").put("b1", "1/0").put("f12", 6);
        desk.doctor.keep(0, true);
        return desk;
    }

    private static void noSign() {
        SheetDoctor doctor = new SheetDoctor();
        Expect.same("on a new tape", doctor.feed(0, 0, 0), 0);
        Expect.same("of bytes that are none", doctor.feed(-1, Long.MIN_VALUE, 0x1f7f1f7f1f7f1f7fL), 0);
        Expect.same("one sign", doctor.feed(0x31, 0, 0), 1);
        Expect.same("behind that none", doctor.feed(0, 0, 0), 1);
        Expect.same("on the tape", doctor.count(4), 1);
    }

    private static void allSigns() {
        Desk desk = new Desk();
        Expect.same("24", desk.feed("1+2+3+4+5+6+7+8+9+10+11+"), 24);
        Expect.same("one more", desk.feed("1"), 25);
        Expect.same("read", desk.doctor.formula(0), 0);
        Expect.same("in their order", desk.value("a1"), 67);
    }

    private static void highestFirst() {
        SheetDoctor doctor = new SheetDoctor();
        Expect.same("a, b, c", doctor.feed(0x3132000000000000L, 0x3300000000000034L, 0x3536L), 6);
        Expect.same("read", doctor.formula(0), 0);
        Expect.same("123456", doctor.cell(0, 1), 123456);
    }

    private static void leftOut() {
        SheetDoctor doctor = new SheetDoctor();
        Expect.same("0, 31, 127, 128, 255 between", doctor.feed(0x31001f327f8033ffL, 0x0034000000000000L, 0), 4);
        Expect.same("read", doctor.formula(0), 0);
        Expect.same("1234", doctor.cell(0, 1), 1234);
        Expect.same("the lowest and the highest", doctor.feed(0x207eL, 0, 0), 2);
        Expect.same("the blank parts, the tilde is none", doctor.formula(0), 1 + 16);
    }

    private static void full() {
        Desk desk = new Desk();
        for (int i = 1; i <= 5; i++) {
            Expect.same("part " + i, desk.feed("1+1+1+1+1+1+1+1+1+1+1+1+"), 24 * i);
        }
        Expect.same("on the tape", desk.doctor.count(4), 120);
        Expect.same("no room for one", desk.doctor.feed(0x31, 0, 0), 120);
        Expect.same("nor for more", desk.feed("111111111111111111111111"), 120);
        Expect.same("the end is at 120", desk.doctor.formula(0), 1 + 16 * 120);
        Expect.same("room again", desk.feed("1"), 1);
    }

    private static void beyond() {
        Desk desk = new Desk();
        desk.feed("1+1+1+1+1+1+1+1+1+1+1+1+".repeat(4));
        Expect.same("119", desk.feed("1+1+1+1+1+1+1+1+1+1+1+1"), 119);
        Expect.same("one of three goes in", desk.doctor.feed(0x3132000000000000L, 0x33L, 0), 120);
        Expect.same("read", desk.doctor.formula(0), 0);
        Expect.same("59 ones and an 11", desk.value("a1"), 59 + 11);
        desk.feed("1+1+1+1+1+1+1+1+1+1+1+1+".repeat(4));
        desk.feed("1+1+1+1+1+1+1+1+1+1+1+1");
        Expect.same("what is none takes no room", desk.doctor.feed(0x0000001f7fff80ffL, 0x32L, 0x33L), 120);
        Expect.same("read again", desk.doctor.formula(0), 0);
        Expect.same("59 ones and a 12", desk.value("a1"), 59 + 12);
    }

    private static void formulaPlaces() {
        SheetDoctor doctor = new SheetDoctor();
        for (int place : new int[] {0, 287}) {
            Desk.feed(doctor, "3");
            Expect.same("formula(" + place + ")", doctor.formula(place), 0);
            Expect.same("kind", doctor.cell(place, 0), 2);
        }
        Expect.same("formulas", doctor.count(1), 2);
    }

    private static void formulaNoPlace() {
        Desk desk = sheet();
        String before = state(desk.doctor);
        for (int place : NO_PLACES) {
            desk.feed("1+1");
            Expect.same("formula(" + place + ")", desk.doctor.formula(place), -1);
            Expect.same("the tape", desk.doctor.count(4), 0);
        }
        Expect.same("the sheet", state(desk.doctor), before);
    }

    private static void formulaNoPlaceAndFault() {
        Desk desk = new Desk();
        for (int place : NO_PLACES) {
            Expect.same("nothing on the tape", desk.doctor.formula(place), -1);
            desk.feed("1+");
            Expect.same("formula(" + place + ")", desk.doctor.formula(place), -1);
            Expect.same("the tape", desk.doctor.count(4), 0);
        }
    }

    private static void formulaRefused() {
        Desk desk = sheet();
        for (String text : new String[] {"1+", "#", "a0", "--------1", "sum(b1:a1)", "sum(b2:b1)", "sum", "1 1"}) {
            Expect.yes(text + " is refused", desk.formula("f12", text) > 0);
            Expect.same("the tape after " + text, desk.doctor.count(4), 0);
        }
        desk.put("f12", "8");
        Expect.same("nothing is left of them", desk.value("f12"), 8);
    }

    private static void formulaLeaves() {
        for (String place : new String[] {"a1", "l24", "b1", "c1"}) {
            Desk desk = sheet();
            String before = state(desk.doctor);
            Expect.same("a fault", desk.formula(place, "sum(b2:b1)"), 7 + 16 * 8);
            Expect.same("the sheet", state(desk.doctor), before);
        }
    }

    private static void formulaOfNothing() {
        Desk desk = sheet();
        String before = state(desk.doctor);
        Expect.same("no sign", desk.doctor.formula(0), 1);
        Expect.same("a blank", desk.formula("a1", " "), 1 + 16);
        Expect.same("the sheet", state(desk.doctor), before);
    }

    private static void numberPlaces() {
        SheetDoctor doctor = new SheetDoctor();
        Expect.yes("the first", doctor.number(0, 1));
        Expect.yes("the last", doctor.number(287, 2));
        Expect.same("values", doctor.cell(0, 1) + " " + doctor.cell(287, 1) + " " + doctor.count(0), "1 2 2");
    }

    private static void numberNoPlace() {
        Desk desk = sheet();
        String before = state(desk.doctor);
        for (int place : NO_PLACES) {
            Expect.no("number(" + place + ", 9)", desk.doctor.number(place, 9));
        }
        Expect.same("the sheet", state(desk.doctor), before);
    }

    private static void numberRange() {
        SheetDoctor doctor = new SheetDoctor();
        for (int v : new int[] {Integer.MIN_VALUE, -1, 0, 1, Integer.MAX_VALUE}) {
            Expect.yes("put", doctor.number(5, v));
            Expect.same("kind and value", doctor.cell(5, 0) + " " + doctor.cell(5, 1), "1 " + v);
        }
    }

    private static void emptyPlaces() {
        Desk desk = sheet();
        Expect.yes("the first", desk.doctor.empty(0));
        Expect.yes("the last", desk.doctor.empty(287));
        Expect.same("kinds", desk.get("a1", Desk.KIND) + " " + desk.get("l24", Desk.KIND), "0 0");
    }

    private static void emptyNoPlace() {
        Desk desk = sheet();
        String before = state(desk.doctor);
        for (int place : NO_PLACES) {
            Expect.no("empty(" + place + ")", desk.doctor.empty(place));
        }
        Expect.same("the sheet", state(desk.doctor), before);
    }

    private static void emptyTwice() {
        Desk desk = new Desk();
        Expect.yes("EMPTY at first", desk.doctor.empty(7));
        Expect.yes("again", desk.doctor.empty(7));
        Expect.same("both were done", desk.doctor.count(5), 2);
        Expect.same("taken back, nothing changes", desk.doctor.undo() + " " + desk.doctor.undo(), "0 0");
    }

    private static void copyPlaces() {
        Desk desk = sheet();
        Expect.yes("from the first to the last", desk.doctor.copy(0, 287));
        Expect.same("value", desk.value("l24"), 5);
        desk.put("l24", "7");
        Expect.yes("from the last to the first", desk.doctor.copy(287, 0));
        Expect.same("value then", desk.value("a1"), 7);
    }

    private static void copyNoPlace() {
        Desk desk = sheet();
        String before = state(desk.doctor);
        for (int place : NO_PLACES) {
            Expect.no("from " + place, desk.doctor.copy(place, 5));
            Expect.no("to " + place, desk.doctor.copy(0, place));
            Expect.no("from and to " + place, desk.doctor.copy(place, place));
            Expect.no("an EMPTY one to " + place, desk.doctor.copy(5, place));
        }
        Expect.same("the sheet", state(desk.doctor), before);
    }

    private static void copyRefused() {
        Desk desk = sheet().put("c3", "b2").put("d4", "sum(b2:$c3)");
        String before = state(desk.doctor);
        Expect.no("off the sheet", desk.copy("c3", "a1"));
        Expect.no("off the sheet, to an EMPTY one", desk.copy("c3", "c1"));
        Expect.no("left of the first", desk.copy("d4", "f4"));
        Expect.no("over a formula", desk.copy("d4", "l24"));
        Expect.same("the sheet", state(desk.doctor), before);
    }

    private static void unitRange() {
        Desk desk = sheet();
        for (int exponent = -4; exponent <= 4; exponent++) {
            desk.unit("a1", exponent, 0, 0);
            Expect.same("the first", desk.unitOf("a1"), exponent + " 0 0");
            desk.unit("a1", 1, exponent, 0);
            Expect.same("the second", desk.unitOf("a1"), "1 " + exponent + " 0");
            desk.unit("a1", 0, 2, exponent);
            Expect.same("the third", desk.unitOf("a1"), "0 2 " + exponent);
        }
        desk.put("l24", 1).unit("l24", -4, 4, -4);
        Expect.same("at the last place", desk.unitOf("l24"), "-4 4 -4");
    }

    private static void unitOutside() {
        Desk desk = sheet();
        String before = state(desk.doctor);
        for (int other : new int[] {-5, 5, -6, 6, Integer.MIN_VALUE, Integer.MAX_VALUE}) {
            Expect.no("the first " + other, desk.doctor.unit(0, other, 0, 0));
            Expect.no("the second " + other, desk.doctor.unit(0, 0, other, 0));
            Expect.no("the third " + other, desk.doctor.unit(0, 0, 0, other));
            Expect.no("all " + other, desk.doctor.unit(0, other, other, other));
        }
        Expect.same("the sheet", state(desk.doctor), before);
    }

    private static void unitOfOthers() {
        Desk desk = sheet();
        String before = state(desk.doctor);
        Expect.no("a FORMULA", desk.doctor.unit(287, 1, 0, 0));
        Expect.no("a FORMULA, 0s", desk.doctor.unit(287, 0, 0, 0));
        Expect.no("one with an ERROR", desk.doctor.unit(1, 0, 0, 0));
        Expect.no("an EMPTY cell", desk.doctor.unit(2, 0, 0, 0));
        Expect.same("the sheet", state(desk.doctor), before);
    }

    private static void unitNoPlace() {
        Desk desk = sheet();
        String before = state(desk.doctor);
        for (int place : NO_PLACES) {
            Expect.no("unit(" + place + ", 1, 0, 0)", desk.doctor.unit(place, 1, 0, 0));
        }
        Expect.same("the sheet", state(desk.doctor), before);
    }

    private static void keepPlaces() {
        SheetDoctor doctor = new SheetDoctor();
        Expect.yes("the first", doctor.keep(0, true));
        Expect.yes("the last", doctor.keep(287, true));
        for (int place = 0; place < 288; place++) {
            Expect.same("kept " + place, doctor.cell(place, 10), place == 0 || place == 287 ? 1 : 0);
        }
    }

    private static void keepNoPlace() {
        Desk desk = sheet();
        String before = state(desk.doctor);
        for (int place : NO_PLACES) {
            Expect.no("keep(" + place + ", true)", desk.doctor.keep(place, true));
            Expect.no("keep(" + place + ", false)", desk.doctor.keep(place, false));
        }
        Expect.same("the sheet", state(desk.doctor), before);
    }

    private static void keepTwice() {
        SheetDoctor doctor = new SheetDoctor();
        Expect.yes("not kept, let go", doctor.keep(5, false));
        Expect.same("not kept", doctor.cell(5, 10), 0);
        Expect.yes("kept", doctor.keep(5, true));
        Expect.yes("kept again", doctor.keep(5, true));
        Expect.same("kept", doctor.cell(5, 10), 1);
        Expect.yes("let go once", doctor.keep(5, false));
        Expect.same("is enough", doctor.cell(5, 10), 0);
        Expect.same("nothing of it is taken back", doctor.count(5), 0);
    }

    private static void keepWhatever() {
        Desk desk = new Desk();
        desk.doctor.keep(0, true);
        desk.put("a1", 1).put("a1", "1").put("b1", 2);
        Expect.same("a NUMBER, a FORMULA", desk.get("a1", Desk.KEPT), 1);
        desk.copy("b1", "a1");
        Expect.same("a COPY", desk.get("a1", Desk.KEPT), 1);
        desk.doctor.empty(0);
        Expect.same("nothing", desk.get("a1", Desk.KEPT), 1);
        desk.doctor.undo();
        Expect.same("taken back", desk.get("a1", Desk.KEPT), 1);
        desk.doctor.keep(0, false);
        desk.doctor.undo();
        Expect.same("let go, taken back", desk.get("a1", Desk.KEPT), 0);
        desk.doctor.keep(0, true);
        desk.copy("a1", "c1");
        Expect.same("where it is copied to", desk.get("c1", Desk.KEPT), 0);
    }
}
