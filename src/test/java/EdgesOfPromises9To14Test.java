/** The boundaries of promises 9 to 14: check, finding, mend, stretch, changed, undo. */
public final class EdgesOfPromises9To14Test {
    private static final int[] NO_PLACES = {-1, 288, -2, 289, Integer.MIN_VALUE, Integer.MAX_VALUE};

    public static void main(String[] args) {
        Expect.edge("9: no FINDINGS", EdgesOfPromises9To14Test::noFindings);
        Expect.edge("9: FINDINGS that are gone", EdgesOfPromises9To14Test::findingsGone);
        Expect.edge("9: a check() changes nothing", EdgesOfPromises9To14Test::checkTwice);
        Expect.edge("10: before the first check()", EdgesOfPromises9To14Test::beforeCheck);
        Expect.edge("10: an i that there is not", EdgesOfPromises9To14Test::noSuchFinding);
        Expect.edge("10: a what that there is not", EdgesOfPromises9To14Test::noSuchWhatOfFinding);
        Expect.edge("10: the FINDINGS of then, not of now", EdgesOfPromises9To14Test::findingsOfThen);
        Expect.edge("10: -1 that is told", EdgesOfPromises9To14Test::toldMinusOne);
        Expect.edge("10: 299 FINDINGS", EdgesOfPromises9To14Test::findings299);
        Expect.edge("10: 300 FINDINGS", EdgesOfPromises9To14Test::findings300);
        Expect.edge("10: FINDINGS beyond the first 300", EdgesOfPromises9To14Test::findings301);
        Expect.edge("11: no such PLACE", EdgesOfPromises9To14Test::mendNoPlace);
        Expect.edge("11: what is neither ODD nor TYPED", EdgesOfPromises9To14Test::mendOthers);
        Expect.edge("11: what is so no more", EdgesOfPromises9To14Test::mendNoMore);
        Expect.edge("11: now, whatever check() told", EdgesOfPromises9To14Test::mendNow);
        Expect.edge("11: no other value", EdgesOfPromises9To14Test::mendSameValue);
        Expect.edge("11: at the sheet's edges", EdgesOfPromises9To14Test::mendAtEdges);
        Expect.edge("11: the upper neighbour", EdgesOfPromises9To14Test::mendUpper);
        Expect.edge("12: no such PLACE", EdgesOfPromises9To14Test::stretchNoPlace);
        Expect.edge("12: what is no FORMULA, or has no sum( )", EdgesOfPromises9To14Test::stretchOthers);
        Expect.edge("12: a k that there is not", EdgesOfPromises9To14Test::stretchNoSuchSum);
        Expect.edge("12: the k-th is not SHORT, another is", EdgesOfPromises9To14Test::stretchOtherSum);
        Expect.edge("12: now, whatever check() told", EdgesOfPromises9To14Test::stretchNow);
        Expect.edge("12: down if that is SHORT, else right", EdgesOfPromises9To14Test::stretchDownFirst);
        Expect.edge("12: to the sheet's last row and column", EdgesOfPromises9To14Test::stretchToEdges);
        Expect.edge("12: what is FIXED stays so", EdgesOfPromises9To14Test::stretchFixed);
        Expect.edge("12: no other value", EdgesOfPromises9To14Test::stretchSameValue);
        Expect.edge("12: into a RING", EdgesOfPromises9To14Test::stretchIntoRing);
        Expect.edge("13: before the first change", EdgesOfPromises9To14Test::changedBefore);
        Expect.edge("13: an i that there is not", EdgesOfPromises9To14Test::noSuchChange);
        Expect.edge("13: a what that there is not", EdgesOfPromises9To14Test::noSuchWhatOfChange);
        Expect.edge("13: ERRORS that come, go and turn", EdgesOfPromises9To14Test::changedErrors);
        Expect.edge("13: the first and the last PLACE", EdgesOfPromises9To14Test::changedPlaces);
        Expect.edge("13: a call that answered NONE or 0", EdgesOfPromises9To14Test::changedNothing);
        Expect.edge("13: other calls leave it", EdgesOfPromises9To14Test::changedByOthers);
        Expect.edge("14: none yet", EdgesOfPromises9To14Test::undoNone);
        Expect.edge("14: none left", EdgesOfPromises9To14Test::undoNoneLeft);
        Expect.edge("14: 20 deep", EdgesOfPromises9To14Test::undo20);
        Expect.edge("14: more than 20 deep", EdgesOfPromises9To14Test::undo21);
        Expect.edge("14: much more than 20 deep", EdgesOfPromises9To14Test::undoMany);
        Expect.edge("14: each kind of call as the 21st", EdgesOfPromises9To14Test::undoEachAs21st);
        Expect.edge("14: what was refused is not taken back", EdgesOfPromises9To14Test::undoRefused);
        Expect.edge("14: unit() and keep() are not taken back", EdgesOfPromises9To14Test::undoOthers);
        Expect.edge("14: its unit, too", EdgesOfPromises9To14Test::undoUnit);
        Expect.edge("14: no other value", EdgesOfPromises9To14Test::undoSameValue);
        Expect.edge("14: mend() and stretch()", EdgesOfPromises9To14Test::undoMends);
        Expect.end();
    }

    private static String finding(SheetDoctor doctor, int i) {
        return doctor.finding(i, 0) + " " + doctor.finding(i, 1) + " " + doctor.finding(i, 2);
    }

    private static void noFindings() {
        Desk desk = new Desk();
        Expect.same("a new sheet", desk.doctor.check(), 0);
        Expect.same("nothing to tell", finding(desk.doctor, 0), "-1 -1 -1");
        desk.doctor.keep(0, true);
        Expect.same("an EMPTY cell that is KEPT", desk.doctor.check(), 0);
        desk.put("a1", 5).put("b1", "a1");
        desk.doctor.keep(1, true);
        Expect.same("all in order", desk.doctor.check(), 0);
        Expect.same("still nothing to tell", finding(desk.doctor, 0), "-1 -1 -1");
    }

    private static void findingsGone() {
        Desk desk = new Desk().put("a1", 5).put("b1", 6);
        Expect.same("two", desk.doctor.check(), 2);
        desk.doctor.empty(0);
        Expect.same("one", desk.doctor.check(), 1);
        Expect.same("that one", finding(desk.doctor, 0), "5 1 -1");
        Expect.same("no second", finding(desk.doctor, 1), "-1 -1 -1");
        desk.doctor.empty(1);
        Expect.same("none", desk.doctor.check(), 0);
        Expect.same("no first", finding(desk.doctor, 0), "-1 -1 -1");
    }

    private static void checkTwice() {
        Desk desk = new Desk().put("c2", 1).put("c3", 1).put("h8", "sum(c2:c2)");
        String first = desk.findings();
        Expect.same("twice the same", desk.findings(), first);
        Expect.same("nothing to take back of it", desk.doctor.count(5), 3);
        Expect.same("the value", desk.value("h8"), 1);
    }

    private static void beforeCheck() {
        Desk desk = new Desk().put("a1", 5);
        for (int i = -1; i <= 1; i++) {
            Expect.same("finding " + i, finding(desk.doctor, i), "-1 -1 -1");
        }
    }

    private static void noSuchFinding() {
        Desk desk = new Desk().put("a1", 5).put("b1", 6);
        Expect.same("two", desk.doctor.check(), 2);
        Expect.same("the first and the last", finding(desk.doctor, 0) + ", " + finding(desk.doctor, 1), "5 0 -1, 5 1 -1");
        for (int i : new int[] {-1, 2, 3, 299, 300, 301, Integer.MIN_VALUE, Integer.MAX_VALUE}) {
            Expect.same("finding " + i, finding(desk.doctor, i), "-1 -1 -1");
        }
    }

    private static void noSuchWhatOfFinding() {
        Desk desk = new Desk().put("a1", 5).put("b1", 6);
        desk.doctor.check();
        for (int what : new int[] {-1, 3, 4, -3, Integer.MIN_VALUE, Integer.MAX_VALUE}) {
            Expect.same("finding(0, " + what + ")", desk.doctor.finding(0, what), -1);
            Expect.same("finding(1, " + what + ")", desk.doctor.finding(1, what), -1);
        }
        Expect.same("finding(0, 2)", desk.doctor.finding(0, 2), -1);
        Expect.same("finding(0, 1)", desk.doctor.finding(0, 1), 0);
    }

    private static void findingsOfThen() {
        Desk desk = new Desk().put("c2", 1).put("c3", 1).put("h8", "sum(c2:c2)");
        Expect.same("two dead, one short", desk.doctor.check(), 3);
        String then = finding(desk.doctor, 1);
        Expect.same("short", then, "3 " + Desk.at("h8") + " " + Desk.at("c3"));
        desk.doctor.stretch(Desk.at("h8"), 0);
        desk.doctor.empty(Desk.at("c3"));
        desk.doctor.undo();
        Expect.same("told still", finding(desk.doctor, 1), then);
        desk.doctor.check();
        Expect.same("told no more", finding(desk.doctor, 1), "-1 -1 -1");
    }

    private static void toldMinusOne() {
        Desk desk = new Desk().put("a1", 1).unit("a1", 1, 0, 0).put("b1", "a1+1");
        Expect.same("DEAD and CLASH", desk.doctor.check(), 2);
        Expect.same("DEAD", finding(desk.doctor, 0), "5 1 -1");
        Expect.same("CLASH", finding(desk.doctor, 1), "6 1 -1");
    }

    /** 6 findings each from a3 on, row by row: four times SHORT, TWICE and DEAD. */
    private static Desk findingsBySixes(int formulas) {
        Desk desk = new Desk().put("a1", 1).put("a2", 1).put("b1", 1).put("a3", "sum($a$1:$a$1)+sum($a$1:$a$1)");
        desk.doctor.keep(Desk.at("a2"), true);
        desk.doctor.keep(Desk.at("b1"), true);
        for (int i = 1; i < formulas; i++) {
            Expect.yes("copy", desk.doctor.copy(24, 24 + i));
        }
        return desk;
    }

    private static void findings299() {
        Desk desk = findingsBySixes(49);
        for (int place = 280; place <= 284; place++) {
            desk.doctor.number(place, 1);
        }
        Expect.same("how many", desk.doctor.check(), 299);
        Expect.same("the 299th", finding(desk.doctor, 298), "5 284 -1");
        Expect.same("no 300th", finding(desk.doctor, 299), "-1 -1 -1");
    }

    private static void findings300() {
        Desk desk = findingsBySixes(50);
        Expect.same("how many", desk.doctor.check(), 300);
        Expect.same("the first", finding(desk.doctor, 0), "3 24 12");
        Expect.same("the 299th", finding(desk.doctor, 298), "4 73 0");
        Expect.same("the 300th", finding(desk.doctor, 299), "5 73 -1");
        Expect.same("no 301st", finding(desk.doctor, 300), "-1 -1 -1");
    }

    private static void findings301() {
        Desk desk = findingsBySixes(50).put("l24", 1);
        Expect.same("all are counted", desk.doctor.check(), 301);
        Expect.same("the 300th", finding(desk.doctor, 299), "5 73 -1");
        Expect.same("the 301st is not told", finding(desk.doctor, 300), "-1 -1 -1");
        desk.put("d1", 1);
        Expect.same("one more ahead", desk.doctor.check(), 302);
        Expect.same("it is the first", finding(desk.doctor, 0), "5 3 -1");
        Expect.same("the 300th now", finding(desk.doctor, 299), "4 73 0");
        Expect.same("the 301st", finding(desk.doctor, 300), "-1 -1 -1");
        Expect.same("the 302nd", finding(desk.doctor, 301), "-1 -1 -1");
        desk.doctor.empty(73);
        desk.doctor.empty(72);
        Expect.same("fewer again", desk.doctor.check(), 290);
        Expect.same("the last of them", finding(desk.doctor, 289), "5 287 -1");
        Expect.same("the old ones are gone", finding(desk.doctor, 290), "-1 -1 -1");
    }

    private static void mendNoPlace() {
        Desk desk = new Desk().put("a1", "1").put("b1", 2).put("c1", "1").put("l24", "1").put("a24", 1);
        for (int place : NO_PLACES) {
            Expect.same("mend(" + place + ")", desk.doctor.mend(place), -1);
        }
        Expect.same("nothing was done", desk.doctor.count(5), 5);
    }

    private static void mendOthers() {
        Desk desk = new Desk().put("a1", "1").put("b1", "1").put("c1", "1").put("e1", "1").put("f1", 4).put("h1", "1");
        for (String name : new String[] {"a1", "b1", "c1", "d1", "e1", "f1", "g1", "h1", "b2", "l24"}) {
            Expect.same("mend " + name, desk.doctor.mend(Desk.at(name)), -1);
        }
        Expect.same("nothing was done", desk.doctor.count(5), 6);
        Expect.same("d1 is EMPTY still", desk.get("d1", Desk.KIND), 0);
        desk = new Desk().put("h8", "sum(a1:a1)+b1").put("a2", 1).put("b1", 5).unit("b1", 1, 0, 0);
        Expect.same("SHORT, CLASH, DEAD are not mended", desk.doctor.mend(Desk.at("h8")), -1);
    }

    private static void mendNoMore() {
        Desk desk = new Desk().put("a1", "1").put("b1", 2).put("c1", "1");
        Expect.same("mend", desk.doctor.mend(1), 1);
        Expect.same("mended", desk.doctor.mend(1), -1);
        desk.put("b1", 2).put("c1", "3");
        Expect.same("the neighbours are of two families now", desk.doctor.mend(1), -1);
    }

    private static void mendNow() {
        Desk desk = new Desk().put("a1", "1").put("b1", 2);
        desk.doctor.check();
        desk.put("c1", "1");
        Expect.same("without a new check()", desk.doctor.mend(1), 1);
        desk.put("b1", 2);
        desk.doctor.check();
        desk.doctor.empty(2);
        Expect.same("check() told it, but now it is not so", desk.doctor.mend(1), -1);
    }

    private static void mendSameValue() {
        Desk desk = new Desk().put("a1", "1").put("b1", 1).put("c1", "1");
        Expect.same("mend", desk.doctor.mend(1), 0);
        Expect.same("it was done", desk.get("b1", Desk.KIND) + " " + desk.doctor.count(5), "2 4");
        Expect.same("nothing to tell", desk.doctor.changed(0, 0), -1);
        desk = new Desk().put("a1", "1/0").put("b1", "2/0").put("c1", "1/0");
        Expect.same("the same ERROR", desk.doctor.mend(1), 0);
    }

    private static void mendAtEdges() {
        Desk desk = new Desk().put("j24", "j23+1").put("k24", 9).put("l24", "l23+1").put("k23", 5);
        Expect.same("in the last row", desk.doctor.mend(Desk.at("k24")), 1);
        Expect.same("k23+1", desk.value("k24"), 6);
        desk = new Desk().put("a22", "b22+1").put("a23", 9).put("a24", "b24+1").put("b23", 5);
        Expect.same("in the first column", desk.doctor.mend(Desk.at("a23")), 1);
        Expect.same("b23+1", desk.value("a23"), 6);
        desk = new Desk().put("a1", "sum($a2:a3)").put("b1", 9).put("c1", "sum($a2:c3)").put("b3", 7);
        Expect.same("a SPAN that is FIXED in part", desk.doctor.mend(Desk.at("b1")), 1);
        Expect.same("sum($a2:b3)", desk.value("b1"), 7);
    }

    private static void mendUpper() {
        Desk desk = new Desk().put("c1", "$d$1+d1").put("c2", "7").put("c3", "$d$1+d3").put("d1", 10).put("d2", 3);
        Expect.same("mend", desk.doctor.mend(Desk.at("c2")), 1);
        Expect.same("$d$1+d2", desk.value("c2"), 13);
        desk.put("c2", "7").put("b2", "1").put("d2", "1");
        Expect.same("left and right go first", desk.doctor.mend(Desk.at("c2")), 1);
        Expect.same("1", desk.value("c2"), 1);
    }

    private static void stretchNoPlace() {
        Desk desk = new Desk().put("a1", 1).put("a2", 1).put("l24", "sum(a1:a1)");
        for (int place : NO_PLACES) {
            Expect.same("stretch(" + place + ", 0)", desk.doctor.stretch(place, 0), -1);
        }
        Expect.same("nothing was done", desk.doctor.count(5), 3);
        Expect.same("the last place", desk.doctor.stretch(287, 0), 1);
        desk.put("a1", "sum(c1:c1)").put("d1", 4);
        Expect.same("the first place", desk.doctor.stretch(0, 0), 2);
    }

    private static void stretchOthers() {
        Desk desk = new Desk().put("a1", 1).put("a2", 1).put("b1", "a1").put("c1", "1+(a1)");
        for (String name : new String[] {"a1", "b1", "c1", "d1"}) {
            Expect.same("stretch " + name, desk.doctor.stretch(Desk.at(name), 0), -1);
        }
        desk.put("h8", "sum(a1:a2)");
        Expect.same("not SHORT", desk.doctor.stretch(Desk.at("h8"), 0), -1);
        desk.put("h8", "sum(a1:b1)");
        desk.doctor.empty(Desk.at("c1"));
        Expect.same("the next one is EMPTY", desk.doctor.stretch(Desk.at("h8"), 0), -1);
        Expect.same("what was done", desk.doctor.count(5), 7);
    }

    private static void stretchNoSuchSum() {
        Desk desk = new Desk().put("a1", 1).put("a2", 1).put("h8", "sum(a1:a1)+sum(a1:a1)");
        for (int k : new int[] {-1, 2, 3, Integer.MIN_VALUE, Integer.MAX_VALUE}) {
            Expect.same("stretch(h8, " + k + ")", desk.doctor.stretch(Desk.at("h8"), k), -1);
        }
        Expect.same("the last one", desk.doctor.stretch(Desk.at("h8"), 1), 1);
        Expect.same("the first one", desk.doctor.stretch(Desk.at("h8"), 0), 1);
    }

    private static void stretchOtherSum() {
        Desk desk = new Desk().put("a1", 1).put("a2", 2).put("h8", "sum(c1:c1)+100*(a2-sum(a1:a1))*-sum(d1:d1)");
        Expect.same("the first", desk.doctor.stretch(Desk.at("h8"), 0), -1);
        Expect.same("the third", desk.doctor.stretch(Desk.at("h8"), 2), -1);
        Expect.same("the second", desk.doctor.stretch(Desk.at("h8"), 1), 0);
        Expect.same("it was done", desk.get("h8", Desk.READS), 4);
    }

    private static void stretchNow() {
        Desk desk = new Desk().put("a1", 1).put("h8", "sum(a1:a1)");
        desk.doctor.check();
        desk.put("a2", 2);
        Expect.same("without a new check()", desk.doctor.stretch(Desk.at("h8"), 0), 1);
        desk.put("a3", 3);
        desk.doctor.check();
        desk.doctor.empty(Desk.at("a3"));
        Expect.same("check() told it, but now it is not so", desk.doctor.stretch(Desk.at("h8"), 0), -1);
    }

    private static void stretchDownFirst() {
        Desk desk = new Desk().put("c3", 1).put("c4", 20).put("d3", 300).put("h8", "sum(c3:c3)");
        Expect.same("both are SHORT", desk.doctor.stretch(Desk.at("h8"), 0), 1);
        Expect.same("down", desk.value("h8"), 21);
        Expect.same("a column now", desk.doctor.stretch(Desk.at("h8"), 0), -1);
        desk.doctor.undo();
        desk.doctor.empty(Desk.at("c4"));
        Expect.same("right alone is SHORT", desk.doctor.stretch(Desk.at("h8"), 0), 1);
        Expect.same("right", desk.value("h8"), 301);
        desk = new Desk().put("c3", 1).put("d3", 300).put("c4", "sum(c3:c3)");
        Expect.same("its own cell is below", desk.doctor.stretch(Desk.at("c4"), 0), 1);
        Expect.same("right again", desk.value("c4"), 301);
    }

    private static void stretchToEdges() {
        Desk desk = new Desk().put("c23", 1).put("c24", 20).put("h8", "sum(c1:c23)");
        Expect.same("to row 24", desk.doctor.stretch(Desk.at("h8"), 0), 1);
        Expect.same("value", desk.value("h8"), 21);
        Expect.same("no further", desk.doctor.stretch(Desk.at("h8"), 0), -1);
        desk.put("k5", 1).put("l5", 20).put("a6", 7).put("h8", "sum(a5:k5)");
        Expect.same("to column l", desk.doctor.stretch(Desk.at("h8"), 0), 1);
        Expect.same("value then", desk.value("h8"), 21);
        Expect.same("no further, too", desk.doctor.stretch(Desk.at("h8"), 0), -1);
    }

    private static void stretchFixed() {
        Desk desk = new Desk();
        for (int row = 1; row <= 5; row++) {
            desk.put("a" + row, row).put("b" + row, 10 * row);
        }
        desk.put("h8", "sum(a1:a2)").put("i8", "sum($a$1:$a$2)").put("j8", "sum($a1:$a2)");
        for (String name : new String[] {"h8", "i8", "j8"}) {
            Expect.same("stretch " + name, desk.doctor.stretch(Desk.at(name), 0), 1);
            Expect.same("value of " + name, desk.value(name), 6);
        }
        desk.copy("h8", "i9");
        Expect.same("sum(b2:b4)", desk.value("i9"), 90);
        desk.copy("i8", "j9");
        Expect.same("sum($a$1:$a$3)", desk.value("j9"), 6);
        desk.copy("j8", "k9");
        Expect.same("sum($a2:$a4)", desk.value("k9"), 9);
        desk.put("h9", "sum($a$1:$a$3)");
        Expect.same("as if it were typed", desk.get("i8", Desk.FAMILY), desk.get("h9", Desk.FAMILY));
        desk.put("a12", 1).put("b12", 2).put("h13", "sum($a$12:$a$12)");
        Expect.same("a FIXED column", desk.doctor.stretch(Desk.at("h13"), 0), 1);
        desk.copy("h13", "k20");
        Expect.same("sum($a$12:$b$12)", desk.value("k20"), 3);
    }

    private static void stretchSameValue() {
        Desk desk = new Desk().put("a1", 1).put("a2", 0).put("h8", "sum(a1:a1)");
        Expect.same("stretch", desk.doctor.stretch(Desk.at("h8"), 0), 0);
        Expect.same("it was done", desk.get("h8", Desk.READS) + " " + desk.doctor.count(5), "2 4");
        Expect.same("nothing to tell", desk.doctor.changed(0, 0), -1);
    }

    private static void stretchIntoRing() {
        Desk desk = new Desk().put("a1", "b1").put("a2", "b2").put("b1", 4).put("b2", "h8").put("h8", "sum(a1:a1)");
        Expect.same("stretch", desk.doctor.stretch(Desk.at("h8"), 0), 3);
        Expect.same("RINGS", desk.changes(), "a2 4 0 0 2, b2 4 0 0 2, h8 4 0 0 2");
        Expect.same("and back", desk.doctor.undo(), 3);
    }

    private static void changedBefore() {
        Desk desk = new Desk().put("a1", 5).put("a1", "1/0");
        for (int what = -1; what <= 5; what++) {
            Expect.same("changed(0, " + what + ")", desk.doctor.changed(0, what), -1);
        }
    }

    private static void noSuchChange() {
        Desk desk = new Desk().put("a1", 5).put("b1", "a1").put("a1", 6);
        Expect.same("undo", desk.doctor.undo(), 2);
        Expect.same("the first and the last", desk.doctor.changed(0, 0) + " " + desk.doctor.changed(1, 0), "0 1");
        for (int i : new int[] {-1, 2, 3, 287, 288, 289, Integer.MIN_VALUE, Integer.MAX_VALUE}) {
            for (int what = 0; what <= 4; what++) {
                Expect.same("changed(" + i + ", " + what + ")", desk.doctor.changed(i, what), -1);
            }
        }
    }

    private static void noSuchWhatOfChange() {
        Desk desk = new Desk().put("a1", 5).put("b1", "a1").put("a1", 6);
        desk.doctor.undo();
        for (int what : new int[] {-1, 5, 6, -5, Integer.MIN_VALUE, Integer.MAX_VALUE}) {
            Expect.same("changed(0, " + what + ")", desk.doctor.changed(0, what), -1);
            Expect.same("changed(1, " + what + ")", desk.doctor.changed(1, what), -1);
        }
    }

    private static void changedErrors() {
        Desk desk = new Desk().put("a1", 2).put("b1", "8/a1").put("c1", "b1").put("a1", 0);
        desk.doctor.undo();
        Expect.same("ERRORS that go", desk.changes(), "a1 0 2 0 0, b1 0 4 1 0, c1 0 4 1 0");
        desk.put("a1", 0).put("a1", 4);
        desk.doctor.undo();
        Expect.same("ERRORS that come", desk.changes(), "a1 4 0 0 0, b1 2 0 0 1, c1 2 0 0 1");
        desk.put("a1", "c1");
        desk.doctor.undo();
        Expect.same("ERRORS that turn", desk.changes(), "a1 0 0 2 0, b1 0 0 2 1, c1 0 0 2 1");
        desk.put("a1", 8).put("b1", "7/a1").put("b1", "1/0");
        desk.doctor.undo();
        Expect.same("a value of 0 is not an ERROR", desk.changes(), "b1 0 0 1 0, c1 0 0 1 0");
        desk.put("b1", "b1").put("b1", 0);
        desk.doctor.undo();
        Expect.same("nor is it a RING", desk.changes(), "b1 0 0 0 2, c1 0 0 0 2");
    }

    private static void changedPlaces() {
        Desk desk = new Desk().put("f12", 1).put("l24", "f12").put("a1", "f12").put("l1", "f12").put("a24", "f12");
        desk.put("f12", 2);
        Expect.same("undo", desk.doctor.undo(), 5);
        Expect.same("by PLACES", desk.changes(), "a1 2 1 0 0, l1 2 1 0 0, f12 2 1 0 0, a24 2 1 0 0, l24 2 1 0 0");
    }

    private static void changedNothing() {
        Desk desk = new Desk().put("a1", 1).put("a2", 1).put("h8", "sum(a1:a1)");
        desk.doctor.stretch(Desk.at("h8"), 0);
        Expect.same("told", desk.changes(), "h8 1 2 0 0");
        Expect.same("a stretch() that is none", desk.doctor.stretch(Desk.at("h8"), 0), -1);
        Expect.same("it changed nothing", desk.changes(), "");
        desk.doctor.undo();
        Expect.same("told of undo()", desk.changes(), "h8 2 1 0 0");
        Expect.same("a mend() that is none", desk.doctor.mend(Desk.at("h8")), -1);
        Expect.same("it changed nothing, too", desk.changes(), "");
        desk.doctor.empty(287);
        desk.doctor.undo();
        desk.doctor.undo();
        Expect.same("told of the latest undo()", desk.changes(), "h8 1 0 0 0");
        desk.doctor.empty(287);
        Expect.same("an undo() that changes no value", desk.doctor.undo(), 0);
        Expect.same("nothing to tell", desk.changes(), "");
        desk.doctor.undo();
        desk.doctor.undo();
        Expect.same("the last", desk.changes(), "a1 1 0 0 0");
        Expect.same("an undo() that is none", desk.doctor.undo(), -1);
        Expect.same("it changed nothing either", desk.changes(), "");
    }

    private static void changedByOthers() {
        Desk desk = new Desk().put("a1", 1).put("a1", 2);
        desk.doctor.undo();
        desk.put("a1", 7).put("b1", "a1");
        desk.formula("b1", "1+");
        desk.doctor.empty(5);
        desk.doctor.copy(0, 2);
        desk.doctor.unit(0, 1, 0, 0);
        desk.doctor.keep(0, true);
        desk.doctor.check();
        Expect.same("as it was told", desk.changes(), "a1 2 1 0 0");
    }

    private static void undoNone() {
        Desk desk = new Desk();
        Expect.same("on a new sheet", desk.doctor.undo(), -1);
        desk.doctor.number(288, 1);
        Expect.same("after a refused call", desk.doctor.undo(), -1);
        Expect.same("how many", desk.doctor.count(5), 0);
    }

    private static void undoNoneLeft() {
        Desk desk = new Desk().put("a1", 1).put("a1", 2);
        Expect.same("two", desk.doctor.undo() + " " + desk.doctor.undo(), "1 1");
        Expect.same("EMPTY again", desk.get("a1", Desk.KIND), 0);
        Expect.same("none left", desk.doctor.undo(), -1);
        Expect.same("an undo is not taken back", desk.doctor.undo() + " " + desk.get("a1", Desk.KIND), "-1 0");
        desk.put("a1", 3);
        Expect.same("one again", desk.doctor.count(5) + " " + desk.doctor.undo() + " " + desk.doctor.undo(), "1 1 -1");
    }

    private static Desk counting(int calls) {
        Desk desk = new Desk();
        for (int v = 1; v <= calls; v++) {
            desk.put("a1", v);
        }
        return desk;
    }

    private static void undo20() {
        Desk desk = counting(20);
        Expect.same("how many", desk.doctor.count(5), 20);
        for (int v = 19; v >= 0; v--) {
            Expect.same("undo to " + v, desk.doctor.undo() + " " + desk.value("a1"), "1 " + v);
        }
        Expect.same("all the way", desk.get("a1", Desk.KIND) + " " + desk.doctor.undo(), "0 -1");
    }

    private static void undo21() {
        Desk desk = counting(21);
        Expect.same("how many", desk.doctor.count(5), 20);
        for (int v = 20; v >= 1; v--) {
            Expect.same("undo to " + v, desk.doctor.undo() + " " + desk.value("a1"), "1 " + v);
        }
        Expect.same("the first one stays", desk.doctor.undo() + " " + desk.value("a1"), "-1 1");
    }

    private static void undoMany() {
        Desk desk = counting(100);
        Expect.same("how many", desk.doctor.count(5), 20);
        for (int i = 0; i < 5; i++) {
            desk.doctor.undo();
        }
        Expect.same("15 left", desk.doctor.count(5) + " " + desk.value("a1"), "15 95");
        for (int place = 1; place <= 7; place++) {
            desk.doctor.number(place, place);
        }
        Expect.same("20 again", desk.doctor.count(5), 20);
        for (int place = 7; place >= 1; place--) {
            Expect.same("place " + place, desk.doctor.undo() + " " + desk.doctor.cell(place, 0), "1 0");
        }
        for (int v = 94; v >= 82; v--) {
            Expect.same("undo to " + v, desk.doctor.undo() + " " + desk.value("a1"), "1 " + v);
        }
        Expect.same("no further", desk.doctor.undo() + " " + desk.value("a1"), "-1 82");
    }

    /** a1 to c1 want a mend, h8 a stretch, and 20 calls more can be taken back. */
    private static Desk twentyDeep() {
        Desk desk = new Desk().put("a1", "1").put("b1", 2).put("c1", "1").put("f1", 3).put("f2", 4).put("h8", "sum(f1:f1)");
        for (int v = 1; v <= 20; v++) {
            desk.put("l24", v);
        }
        Expect.same("20 deep", desk.doctor.count(5), 20);
        return desk;
    }

    private static void takeBackAll(Desk desk, String call) {
        Expect.same("still 20 after " + call, desk.doctor.count(5), 20);
        desk.doctor.undo();
        Expect.same(call + " is taken back", desk.value("b1") + " " + desk.value("h8") + " " + desk.value("l24"), "2 3 20");
        for (int v = 19; v >= 1; v--) {
            Expect.same("undo to " + v, desk.doctor.undo() + " " + desk.value("l24"), "1 " + v);
        }
        Expect.same("no further", desk.doctor.undo() + " " + desk.value("l24"), "-1 1");
    }

    private static void undoEachAs21st() {
        Desk desk = twentyDeep().put("b1", 9);
        takeBackAll(desk, "number()");
        desk = twentyDeep().put("b1", "9");
        takeBackAll(desk, "formula()");
        desk = twentyDeep();
        desk.doctor.empty(1);
        takeBackAll(desk, "empty()");
        desk = twentyDeep();
        desk.copy("f2", "b1");
        takeBackAll(desk, "copy()");
        desk = twentyDeep();
        Expect.same("mend", desk.doctor.mend(1), 1);
        takeBackAll(desk, "mend()");
        desk = twentyDeep();
        Expect.same("stretch", desk.doctor.stretch(Desk.at("h8"), 0), 1);
        takeBackAll(desk, "stretch()");
    }

    private static void undoRefused() {
        Desk desk = new Desk().put("b2", "a1").put("a1", 4);
        desk.formula("a1", "1+");
        desk.feed("1");
        desk.doctor.formula(288);
        desk.doctor.number(-1, 1);
        desk.doctor.empty(288);
        desk.doctor.copy(Desk.at("b2"), 0);
        desk.doctor.copy(0, 288);
        desk.doctor.mend(0);
        desk.doctor.stretch(0, 0);
        Expect.same("how many", desk.doctor.count(5), 2);
        Expect.same("the number is taken back", desk.doctor.undo() + " " + desk.get("a1", Desk.KIND), "2 0");
        Expect.same("then the formula", desk.doctor.undo() + " " + desk.get("b2", Desk.KIND), "0 0");
    }

    private static void undoOthers() {
        Desk desk = new Desk().put("a1", 4);
        desk.unit("a1", 1, 1, 1);
        desk.doctor.keep(0, true);
        desk.doctor.check();
        desk.feed("1");
        Expect.same("how many", desk.doctor.count(5), 1);
        Expect.same("the number is taken back", desk.doctor.undo() + " " + desk.get("a1", Desk.KIND), "1 0");
        Expect.same("KEPT still", desk.get("a1", Desk.KEPT), 1);
        Expect.same("the TAPE stays", desk.doctor.count(4), 1);
    }

    private static void undoUnit() {
        Desk desk = new Desk().put("a1", 4).unit("a1", 1, 2, 3).put("a1", 4).unit("a1", -1, -2, -3).put("a1", "1");
        desk.doctor.undo();
        Expect.same("before the formula", desk.unitOf("a1"), "-1 -2 -3");
        desk.doctor.undo();
        Expect.same("before the second number", desk.unitOf("a1"), "1 2 3");
        desk.doctor.empty(0);
        desk.doctor.undo();
        Expect.same("emptied and back", desk.unitOf("a1"), "1 2 3");
        desk.copy("b1", "a1");
        desk.doctor.undo();
        Expect.same("copied over and back", desk.unitOf("a1"), "1 2 3");
        desk.put("b1", "a1");
        desk.unit("a1", 4, 0, 0);
        desk.doctor.undo();
        Expect.same("another cell's undo leaves it", desk.unitOf("a1"), "4 0 0");
    }

    private static void undoSameValue() {
        Desk desk = new Desk().put("a1", 4).put("a1", "4");
        Expect.same("undo", desk.doctor.undo(), 0);
        Expect.same("it was done", desk.get("a1", Desk.KIND) + " " + desk.doctor.count(5), "1 1");
        desk.put("a1", 0);
        desk.doctor.undo();
        desk.doctor.undo();
        desk.put("a1", 0);
        Expect.same("EMPTY and 0 have one value", desk.doctor.undo(), 0);
    }

    private static void undoMends() {
        Desk desk = new Desk().put("a1", "1").put("b1", 2).put("c1", "1").put("h8", "sum(b1:b1)").put("b2", 5);
        desk.unit("b1", 1, 0, 0);
        Expect.same("mend", desk.doctor.mend(1), 2);
        Expect.same("stretch", desk.doctor.stretch(Desk.at("h8"), 0), 1);
        Expect.same("how many", desk.doctor.count(5), 7);
        Expect.same("the stretch", desk.doctor.undo() + " " + desk.changes(), "1 h8 6 1 0 0");
        Expect.same("the mend", desk.doctor.undo() + " " + desk.changes(), "2 b1 1 2 0 0, h8 1 2 0 0");
        Expect.same("its unit, too", desk.get("b1", Desk.KIND) + " " + desk.unitOf("b1"), "1 1 0 0");
    }
}
