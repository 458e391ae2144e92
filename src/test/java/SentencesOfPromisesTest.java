/** The document, sentence by sentence in its order: promises 1 to 17. */
public final class SentencesOfPromisesTest {
    private static final int NONE = SheetDoctor.NONE;
    private static final int[] NO_PLACES = {-1, 288, 300, Integer.MIN_VALUE, Integer.MAX_VALUE};

    public static void main(String[] args) {
        Expect.sentence("1: A sheet of EMPTY cells, none KEPT", SentencesOfPromisesTest::newObject);
        Expect.sentence("2: Up to 24 signs come behind the TAPE", SentencesOfPromisesTest::feed);
        Expect.sentence("2: of each the highest first; others are left out", SentencesOfPromisesTest::feedOrder);
        Expect.sentence("3: The TAPE's FORMULA is put: 0, or its FAULT", SentencesOfPromisesTest::formula);
        Expect.sentence("3: -1: no such PLACE", SentencesOfPromisesTest::formulaNowhere);
        Expect.sentence("4: A NUMBER is put", SentencesOfPromisesTest::number);
        Expect.sentence("5: A cell becomes EMPTY", SentencesOfPromisesTest::empty);
        Expect.sentence("6: A cell is COPIED", SentencesOfPromisesTest::copy);
        Expect.sentence("7: A NUMBER's unit (-4 .. 4 each)", SentencesOfPromisesTest::unit);
        Expect.sentence("8: A cell is KEPT from now on, or no more", SentencesOfPromisesTest::keep);
        Expect.sentence("9: FINDINGS as the sheet is now: how many", SentencesOfPromisesTest::check);
        Expect.sentence("10: Of the i-th FINDING of the latest check()", SentencesOfPromisesTest::finding);
        Expect.sentence("10: the first 300", SentencesOfPromisesTest::manyFindings);
        Expect.sentence("11: A cell that is ODD or TYPED now becomes a COPY", SentencesOfPromisesTest::mend);
        Expect.sentence("11: NONE: it is not such a one", SentencesOfPromisesTest::noMend);
        Expect.sentence("12: its SPAN goes one further", SentencesOfPromisesTest::stretch);
        Expect.sentence("12: down, if that is SHORT, else to the right", SentencesOfPromisesTest::stretchDownFirst);
        Expect.sentence("12: NONE: not so", SentencesOfPromisesTest::noStretch);
        Expect.sentence("13: Of the i-th cell that the latest changed", SentencesOfPromisesTest::changed);
        Expect.sentence("13: values with an ERROR are 0", SentencesOfPromisesTest::changedErrors);
        Expect.sentence("14: The latest that was done is taken back", SentencesOfPromisesTest::undo);
        Expect.sentence("14: the cell is as it was then, its unit, too", SentencesOfPromisesTest::undoUnit);
        Expect.sentence("14: 20 deep", SentencesOfPromisesTest::undoDeep);
        Expect.sentence("14: that was done", SentencesOfPromisesTest::undoOnlyWhatWasDone);
        Expect.sentence("15: Of a cell, what 0 .. 10", SentencesOfPromisesTest::cell);
        Expect.sentence("15: NoSuchElementException: none such", SentencesOfPromisesTest::noSuchElement);
        Expect.sentence("16: How many WAYS a cell has into a TOTAL", SentencesOfPromisesTest::ways);
        Expect.sentence("16: 9 for more", SentencesOfPromisesTest::manyWays);
        Expect.sentence("17: What 0 .. 5; NONE for another what", SentencesOfPromisesTest::count);
        Expect.end();
    }

    private static void newObject() {
        SheetDoctor doctor = new SheetDoctor();
        for (int place = 0; place < 288; place += 7) {
            Expect.same("kind", doctor.cell(place, 0), 0);
            Expect.same("KEPT", doctor.cell(place, 10), 0);
        }
        Expect.same("signs on the TAPE", doctor.count(4), 0);
        Expect.same("what can be taken back", doctor.count(5), 0);
        Expect.same("undo", doctor.undo(), NONE);
        Expect.same("finding", doctor.finding(0, 0), NONE);
        Expect.same("changed", doctor.changed(0, 0), NONE);
        Expect.same("check", doctor.check(), 0);
    }

    private static void feed() {
        Desk desk = new Desk();
        long ones = Desk.pack("11111111", 0);
        for (int i = 1; i <= 5; i++) {
            Expect.same("feed " + i, desk.doctor.feed(ones, ones, ones), 24 * i);
        }
        Expect.same("a sixth", desk.doctor.feed(ones, ones, ones), 120);
        Expect.same("count", desk.doctor.count(4), 120);
    }

    private static void feedOrder() {
        SheetDoctor doctor = new SheetDoctor();
        Expect.same("12 signs", doctor.feed(0x0031303000302d00L, 0x8035303030000000L, 0x00000000ff2d3137L), 12);
        Expect.same("formula", doctor.formula(5), 0);
        Expect.same("1000-5000-17", doctor.cell(5, 1), 1000 - 5000 - 17);
    }

    private static void formula() {
        Desk desk = new Desk().put("a1", 4);
        Expect.same("0", desk.formula("b1", "a1*a1"), 0);
        Expect.same("put", desk.value("b1"), 16);
        Expect.same("a FAULT", desk.formula("b1", "a1*a"), 1 + 16 * 4);
        Expect.same("it stays", desk.value("b1"), 16);
        Expect.same("an empty TAPE", desk.doctor.formula(1), 1);
    }

    private static void formulaNowhere() {
        for (int place : NO_PLACES) {
            Desk desk = new Desk();
            desk.feed("1+1");
            Expect.same("formula", desk.doctor.formula(place), NONE);
            Expect.same("the TAPE is empty then, too", desk.doctor.count(4), 0);
            desk.feed("1+");
            Expect.same("with a FAULT", desk.doctor.formula(place), NONE);
            Expect.same("FORMULAS", desk.doctor.count(1), 0);
        }
    }

    private static void number() {
        Desk desk = new Desk().put("a1", "5");
        for (int v : new int[] {0, -1, Integer.MIN_VALUE, Integer.MAX_VALUE}) {
            Expect.yes("put", desk.doctor.number(0, v));
            Expect.same("value", desk.value("a1"), v);
            Expect.same("kind", desk.get("a1", Desk.KIND), 1);
        }
        for (int place : NO_PLACES) {
            Expect.no("no such PLACE", desk.doctor.number(place, 1));
        }
        Expect.same("NUMBERS", desk.doctor.count(0), 1);
    }

    private static void empty() {
        Desk desk = new Desk().put("a1", "5").put("a2", 5).unit("a2", 1, 1, 1);
        Expect.yes("a FORMULA", desk.doctor.empty(0));
        Expect.yes("a NUMBER", desk.doctor.empty(12));
        Expect.yes("EMPTY", desk.doctor.empty(24));
        Expect.same("kinds", desk.get("a1", Desk.KIND) + desk.get("a2", Desk.KIND), 0);
        Expect.same("value", desk.value("a2"), 0);
        Expect.same("unit", desk.unitOf("a2"), "0 0 0");
        for (int place : NO_PLACES) {
            Expect.no("no such PLACE", desk.doctor.empty(place));
        }
        Expect.same("three were done", desk.doctor.count(5), 5);
    }

    private static void copy() {
        Desk desk = new Desk().put("b2", "a1+$a$1").put("a1", 3).put("a2", 4);
        Expect.yes("copied", desk.copy("b2", "b3"));
        Expect.same("a2 + a1", desk.value("b3"), 7);
        Expect.no("it can't be", desk.copy("b2", "b1"));
        Expect.same("nothing was put", desk.get("b1", Desk.KIND), 0);
        for (int place : NO_PLACES) {
            Expect.no("from nowhere", desk.doctor.copy(place, 0));
            Expect.no("to nowhere", desk.doctor.copy(0, place));
        }
        Expect.same("a1 stays", desk.value("a1"), 3);
    }

    private static void unit() {
        Desk desk = new Desk().put("a1", 3).put("b1", "3");
        Expect.yes("the least and the most", desk.doctor.unit(0, -4, 4, 0));
        Expect.no("-5", desk.doctor.unit(0, -5, 0, 0));
        Expect.no("5", desk.doctor.unit(0, 0, 5, 0));
        Expect.no("the third", desk.doctor.unit(0, 0, 0, Integer.MIN_VALUE));
        Expect.same("as told", desk.unitOf("a1"), "-4 4 0");
        Expect.no("a FORMULA", desk.doctor.unit(1, 1, 1, 1));
        Expect.no("EMPTY", desk.doctor.unit(2, 0, 0, 0));
        for (int place : NO_PLACES) {
            Expect.no("no such PLACE", desk.doctor.unit(place, 0, 0, 0));
        }
        Expect.same("it is not taken back", desk.doctor.count(5), 2);
    }

    private static void keep() {
        Desk desk = new Desk();
        Expect.yes("EMPTY, too", desk.doctor.keep(40, true));
        Expect.same("KEPT", desk.doctor.cell(40, 10), 1);
        desk.doctor.number(40, 8);
        Expect.same("whatever is put there", desk.doctor.cell(40, 10), 1);
        Expect.same("not DEAD", desk.doctor.check(), 0);
        desk.doctor.undo();
        Expect.same("not taken back", desk.doctor.cell(40, 10), 1);
        desk.doctor.number(40, 8);
        Expect.yes("no more", desk.doctor.keep(40, false));
        Expect.same("not KEPT", desk.doctor.cell(40, 10), 0);
        Expect.same("DEAD", desk.doctor.check(), 1);
        for (int place : NO_PLACES) {
            Expect.no("no such PLACE", desk.doctor.keep(place, true));
        }
    }

    private static void check() {
        Desk desk = new Desk().put("a1", 1);
        Expect.same("DEAD", desk.doctor.check(), 1);
        desk.put("b1", "a1+a1");
        Expect.same("what finding() tells from here on", desk.doctor.finding(0, 1), 0);
        Expect.same("TWICE, DEAD", desk.doctor.check(), 2);
        Expect.same("another one", desk.doctor.finding(0, 1), 1);
        desk.doctor.empty(1);
        desk.doctor.empty(0);
        Expect.same("still that of the latest check()", desk.doctor.finding(1, 0), 5);
        Expect.same("nothing", desk.doctor.check(), 0);
        Expect.same("nothing to tell", desk.doctor.finding(0, 0), NONE);
    }

    private static void finding() {
        Desk desk = new Desk().put("a1", 1).put("b1", "a1+a1");
        desk.doctor.check();
        Expect.same("kind", desk.doctor.finding(0, 0), 4);
        Expect.same("PLACE", desk.doctor.finding(0, 1), 1);
        Expect.same("the other number", desk.doctor.finding(0, 2), 0);
        Expect.same("-1 is told, too", desk.doctor.finding(1, 2), -1);
        Expect.same("behind the last", desk.doctor.finding(2, 0), NONE);
        Expect.same("before the first", desk.doctor.finding(-1, 0), NONE);
        Expect.same("what 3", desk.doctor.finding(0, 3), NONE);
        Expect.same("what -1", desk.doctor.finding(0, -1), NONE);
    }

    private static void manyFindings() {
        Desk desk = new Desk().put("a1", 1).unit("a1", 1, 0, 0).put("b1", "$a$1+1");
        for (int place = 2; place < 288; place++) {
            desk.doctor.copy(1, place);
        }
        Expect.same("287 DEAD, 287 CLASH", desk.doctor.check(), 574);
        Expect.same("the 300th: a CLASH", desk.doctor.finding(299, 0), 6);
        Expect.same("of the 150th FORMULA", desk.doctor.finding(299, 1), 150);
        Expect.same("the 301st", desk.doctor.finding(300, 0), NONE);
    }

    private static void mend() {
        Desk desk = new Desk().put("b1", "2*a1").put("b2", 5).put("b3", "2*a3").put("a2", 7).put("c2", "b2+1");
        Expect.same("b2 and c2", desk.doctor.mend(Desk.at("b2")), 2);
        Expect.same("a COPY of b1", desk.get("b2", Desk.FAMILY), Desk.at("b1"));
        Expect.same("2 * a2", desk.value("b2"), 14);
        desk.put("b2", "a2+7");
        Expect.same("ODD with the same value", desk.doctor.mend(Desk.at("b2")), 0);
        Expect.same("a COPY all the same", desk.get("b2", Desk.FAMILY), Desk.at("b1"));
        Expect.same("both were done", desk.doctor.count(5), 8);
    }

    private static void noMend() {
        Desk desk = new Desk().put("b1", "2*a1").put("b2", "2*a2").put("b3", "2*a3").put("a2", 7);
        Expect.same("of the FAMILY", desk.doctor.mend(Desk.at("b2")), NONE);
        Expect.same("a NUMBER of its own", desk.doctor.mend(Desk.at("a2")), NONE);
        desk.doctor.empty(Desk.at("b2"));
        Expect.same("EMPTY", desk.doctor.mend(Desk.at("b2")), NONE);
        for (int place : NO_PLACES) {
            Expect.same("no such PLACE", desk.doctor.mend(place), NONE);
        }
        Expect.same("nothing was done", desk.doctor.count(5), 5);
    }

    private static void stretch() {
        Desk desk = new Desk().put("a1", 1).put("a2", 2).put("a3", 4).put("c1", "a1+sum(a1:a$2)");
        desk.put("d1", "c1");
        Expect.same("c1 and d1", desk.doctor.stretch(Desk.at("c1"), 0), 2);
        Expect.same("one further", desk.value("c1"), 8);
        desk.put("a1", 1).put("e1", "c1+sum(c1:c$3)");
        Expect.same("FIXED as before", desk.get("e1", Desk.FAMILY), Desk.at("c1"));
        desk.put("a4", 8);
        Expect.same("c1, d1 and e1", desk.doctor.stretch(Desk.at("c1"), 0), 3);
        Expect.same("the row is one more", desk.value("c1"), 16);
        Expect.same("the FAMILY is left", desk.get("e1", Desk.FAMILY), Desk.at("e1"));
    }

    private static void stretchDownFirst() {
        Desk desk = new Desk().put("a1", 1).put("a2", 2).put("b1", 4).put("e9", "3*sum(a1:a1)-sum(a1:a1)");
        Expect.same("the second, down", desk.doctor.stretch(Desk.at("e9"), 1), 1);
        Expect.same("3 - 3", desk.value("e9"), 0);
        desk.doctor.empty(Desk.at("a2"));
        Expect.same("the first, to the right", desk.doctor.stretch(Desk.at("e9"), 0), 1);
        Expect.same("15 - 1", desk.value("e9"), 14);
    }

    private static void noStretch() {
        Desk desk = new Desk().put("a1", 1).put("a2", 2).put("e9", "sum(a1:a1)+sum(a1:a2)").put("f9", 5);
        Expect.same("not SHORT", desk.doctor.stretch(Desk.at("e9"), 1), NONE);
        Expect.same("no third", desk.doctor.stretch(Desk.at("e9"), 2), NONE);
        Expect.same("-1", desk.doctor.stretch(Desk.at("e9"), -1), NONE);
        Expect.same("a NUMBER", desk.doctor.stretch(Desk.at("f9"), 0), NONE);
        Expect.same("EMPTY", desk.doctor.stretch(Desk.at("g9"), 0), NONE);
        for (int place : NO_PLACES) {
            Expect.same("no such PLACE", desk.doctor.stretch(place, 0), NONE);
        }
        Expect.same("nothing was done", desk.doctor.count(5), 4);
    }

    private static void changed() {
        Desk desk = new Desk().put("b1", "2*a1").put("b2", 5).put("b3", "2*a3").put("a2", 7);
        desk.put("a9", "b2+1").put("l1", "b2*10");
        Expect.same("mend", desk.doctor.mend(Desk.at("b2")), 3);
        Expect.same("by PLACES", desk.changes(), "l1 50 140 0 0, b2 5 14 0 0, a9 6 15 0 0");
        Expect.same("what 5", desk.doctor.changed(0, 5), NONE);
        Expect.same("what -1", desk.doctor.changed(0, -1), NONE);
        Expect.same("before the first", desk.doctor.changed(-1, 0), NONE);
        Expect.same("behind the last", desk.doctor.changed(3, 0), NONE);
        desk.put("a2", 8);
        Expect.same("number() is not meant", desk.changes(), "l1 50 140 0 0, b2 5 14 0 0, a9 6 15 0 0");
        Expect.same("undo", desk.doctor.undo(), 4);
        Expect.same("of undo()", desk.changes(), "l1 160 140 0 0, a2 8 7 0 0, b2 16 14 0 0, a9 17 15 0 0");
    }

    private static void changedErrors() {
        Desk desk = new Desk().put("a1", 4).put("b1", "8/a1").put("c1", "b1");
        desk.put("a1", 0);
        Expect.same("undo", desk.doctor.undo(), 3);
        Expect.same("no more ERRORS", desk.changes(), "a1 0 4 0 0, b1 0 2 1 0, c1 0 2 1 0");
        desk.put("b2", "b2").put("b2", 0).put("b2", "1/0");
        desk.doctor.undo();
        Expect.same("the same value, another ERROR", desk.changes(), "b2 0 0 1 0");
        desk.doctor.undo();
        Expect.same("into a RING", desk.changes(), "b2 0 0 0 2");
    }

    private static void undo() {
        Desk desk = new Desk().put("a1", 1).put("a2", "a1").put("a1", 1);
        Expect.same("the same value", desk.doctor.undo(), 0);
        desk.copy("a1", "a3");
        Expect.same("copy", desk.doctor.undo(), 1);
        desk.doctor.empty(0);
        Expect.same("empty", desk.doctor.undo(), 2);
        Expect.same("formula", desk.doctor.undo(), 1);
        Expect.same("number", desk.doctor.undo(), 1);
        Expect.same("none", desk.doctor.undo(), NONE);
        Expect.same("kind", desk.get("a1", Desk.KIND), 0);
        Desk mended = new Desk().put("b1", "2*a1").put("b2", 5).put("b3", "2*a3").put("c1", "sum(b2:b2)");
        mended.doctor.mend(Desk.at("b2"));
        Expect.same("stretch", mended.doctor.stretch(Desk.at("c1"), 0), 0);
        Expect.same("stretch taken back", mended.doctor.undo(), 0);
        Expect.same("READS again", mended.get("c1", Desk.READS), 1);
        Expect.same("mend taken back", mended.doctor.undo(), 2);
        Expect.same("NUMBER again", mended.get("b2", Desk.KIND), 1);
    }

    private static void undoUnit() {
        Desk desk = new Desk().put("a1", 1).unit("a1", 1, 2, 3).put("a1", "4");
        desk.doctor.undo();
        Expect.same("with its unit", desk.unitOf("a1"), "1 2 3");
        desk.put("a1", 9).unit("a1", 4, 4, 4);
        desk.doctor.undo();
        Expect.same("as it was then", desk.unitOf("a1"), "1 2 3");
    }

    private static void undoDeep() {
        Desk desk = new Desk();
        for (int i = 0; i <= 22; i++) {
            desk.put("a1", i);
        }
        Expect.same("count", desk.doctor.count(5), 20);
        for (int i = 0; i < 20; i++) {
            Expect.same("undo", desk.doctor.undo(), 1);
        }
        Expect.same("no deeper", desk.doctor.undo(), NONE);
        Expect.same("the third", desk.value("a1"), 2);
    }

    private static void undoOnlyWhatWasDone() {
        Desk desk = new Desk().put("b2", "a1");
        desk.formula("b2", "(");
        desk.doctor.number(288, 1);
        desk.doctor.empty(-1);
        desk.copy("b2", "a1");
        desk.doctor.mend(13);
        desk.doctor.stretch(13, 0);
        desk.doctor.keep(13, true);
        desk.doctor.check();
        Expect.same("one alone", desk.doctor.count(5), 1);
        Expect.same("undo", desk.doctor.undo(), 0);
        Expect.same("EMPTY again", desk.get("b2", Desk.KIND), 0);
    }

    private static void cell() {
        Desk desk = new Desk().put("a1", 6).unit("a1", 1, 2, 3).put("a2", "a1+sum(a1:b1)").put("a3", "a2+sum(a2:b2)");
        desk.put("a4", "1/0").doctor.keep(Desk.at("a3"), true);
        String[] names = {"a1", "a2", "a3", "a4", "l24"};
        int[][] due = {{1, 6, 0, NONE, 1, 2, 3, 0, 0, 1, 0}, {2, 12, 0, 12, 1, 2, 3, 1, 2, 1, 0},
            {2, 24, 0, 12, 1, 2, 3, 1, 2, 0, 1}, {2, 0, 1, 36, 0, 0, 0, 0, 0, 0, 0},
            {0, 0, 0, NONE, 0, 0, 0, 0, 0, 0, 0}};
        for (int i = 0; i < names.length; i++) {
            for (int what = 0; what <= 10; what++) {
                Expect.same(names[i] + ", what " + what, desk.get(names[i], what), due[i][what]);
            }
        }
    }

    private static void noSuchElement() {
        SheetDoctor doctor = new SheetDoctor();
        for (int place : NO_PLACES) {
            Expect.yes("PLACE " + place, Desk.cellThrows(doctor, place, 0));
        }
        for (int what : new int[] {-1, 11, Integer.MIN_VALUE, Integer.MAX_VALUE}) {
            Expect.yes("what " + what, Desk.cellThrows(doctor, 0, what));
        }
        Expect.no("what 10", Desk.cellThrows(doctor, 287, 10));
    }

    private static void ways() {
        Desk desk = new Desk().put("a1", 6).put("a2", "a1+sum(a1:b1)").put("a3", "a1*2");
        Expect.same("two", desk.ways("a1", "a2"), 2);
        Expect.same("none", desk.ways("a3", "a2"), 0);
        Expect.same("not a TOTAL", desk.ways("a1", "a3"), NONE);
        Expect.same("a NUMBER", desk.ways("a1", "a1"), NONE);
        for (int place : NO_PLACES) {
            Expect.same("from nowhere", desk.doctor.ways(place, 12), NONE);
            Expect.same("into nowhere", desk.doctor.ways(0, place), NONE);
        }
    }

    private static void manyWays() {
        Desk desk = new Desk().put("a1", 6).put("b1", "a1+a1+a1").put("c1", "b1+b1+a1+a1").put("d1", "c1+a1");
        Expect.same("8", desk.ways("a1", "c1"), 8);
        Expect.same("9", desk.ways("a1", "d1"), 9);
        desk.put("d1", "c1+a1+a1");
        Expect.same("10", desk.ways("a1", "d1"), 9);
        desk.put("d1", "c1+c1+c1+c1+c1+c1+c1+c1+c1").put("e1", "d1+d1+d1+d1");
        Expect.same("many", desk.ways("a1", "e1"), 9);
    }

    private static void count() {
        Desk desk = new Desk().put("a1", 6).put("a2", "a1").put("a3", "a2");
        desk.put("a4", "1/0").put("a5", "a4/1").put("b9", 4);
        desk.feed("12345");
        int[] due = {2, 4, 3, 2, 5, 6};
        for (int what = 0; what < due.length; what++) {
            Expect.same("what " + what, desk.doctor.count(what), due[what]);
        }
        for (int what : new int[] {-1, 6, Integer.MIN_VALUE, Integer.MAX_VALUE}) {
            Expect.same("what " + what, desk.doctor.count(what), NONE);
        }
    }
}
