/** The boundaries that the document's third terms name: neighbours, spans that stop, kept cells, the order. */
public final class EdgesOfTerms3Test {
    public static void main(String[] args) {
        Expect.edge("neighbours of a cell in column a", EdgesOfTerms3Test::columnA);
        Expect.edge("neighbours of a cell in column l", EdgesOfTerms3Test::columnL);
        Expect.edge("neighbours of a cell in row 1", EdgesOfTerms3Test::row1);
        Expect.edge("neighbours of a cell in row 24", EdgesOfTerms3Test::row24);
        Expect.edge("neighbours of the corners", EdgesOfTerms3Test::corners);
        Expect.edge("cells whose neighbours are at the edges", EdgesOfTerms3Test::besideTheEdges);
        Expect.edge("one neighbour alone", EdgesOfTerms3Test::oneNeighbour);
        Expect.edge("neighbours of two FAMILIES", EdgesOfTerms3Test::twoFamilies);
        Expect.edge("neighbours of its own FAMILY", EdgesOfTerms3Test::ownFamily);
        Expect.edge("neighbours that are no FORMULAS", EdgesOfTerms3Test::noFormulas);
        Expect.edge("left and right go before upper and lower", EdgesOfTerms3Test::leftGoesFirst);
        Expect.edge("an EMPTY cell is neither ODD nor TYPED", EdgesOfTerms3Test::emptyCell);
        Expect.edge("a SPAN down to row 24", EdgesOfTerms3Test::spanToRow24);
        Expect.edge("a SPAN up to column l", EdgesOfTerms3Test::spanToColumnL);
        Expect.edge("a SPAN before the FORMULA's own cell", EdgesOfTerms3Test::spanBeforeOwn);
        Expect.edge("a SPAN of one cell", EdgesOfTerms3Test::spanOfOne);
        Expect.edge("a SPAN of more than a column and a row", EdgesOfTerms3Test::block);
        Expect.edge("a SPAN of one column looks down alone", EdgesOfTerms3Test::oneColumn);
        Expect.edge("a SPAN of one row looks right alone", EdgesOfTerms3Test::oneRow);
        Expect.edge("the next cell is EMPTY or a FORMULA", EdgesOfTerms3Test::nextCell);
        Expect.edge("the FAMILY of the SPAN's last cell", EdgesOfTerms3Test::lastCell);
        Expect.edge("a SPAN that has its own FORMULA", EdgesOfTerms3Test::spanOverOwn);
        Expect.edge("1 WAY and 2 WAYS", EdgesOfTerms3Test::waysForTwice);
        Expect.edge("the least PLACE of those that are summed twice", EdgesOfTerms3Test::leastTwice);
        Expect.edge("TWICE is of TOTALS alone", EdgesOfTerms3Test::twiceOfTotals);
        Expect.edge("KEPT cells are not DEAD", EdgesOfTerms3Test::keptNotDead);
        Expect.edge("KEPT cells have the other FINDINGS", EdgesOfTerms3Test::keptOthers);
        Expect.edge("what reads a cell", EdgesOfTerms3Test::reads);
        Expect.edge("FINDINGS by PLACES", EdgesOfTerms3Test::byPlaces);
        Expect.edge("FINDINGS of one PLACE by kinds", EdgesOfTerms3Test::byKinds);
        Expect.edge("FINDINGS of one kind in the order told", EdgesOfTerms3Test::ofOneKind);
        Expect.end();
    }

    /** A cell between formulas of one family: the findings of an odd formula and of a typed number. */
    private static void between(String before, String cell, String behind, boolean found) {
        Desk desk = new Desk().put(before, "1").put(behind, "1").put(cell, "2");
        Expect.same(cell + " odd", desk.findingsButDead(), found ? "1 " + cell + " " + before : "");
        desk.put(cell, 2);
        Expect.same(cell + " typed", desk.findingsButDead(), found ? "2 " + cell + " " + before : "");
        Expect.same(cell + " mended", desk.doctor.mend(Desk.at(cell)), found ? 1 : -1);
    }

    private static void columnA() {
        between("l1", "a2", "b2", false);
        between("l11", "a12", "b12", false);
        between("l23", "a24", "b24", false);
        between("a11", "a12", "a13", true);
        between("a22", "a23", "a24", true);
    }

    private static void columnL() {
        between("k1", "l1", "a2", false);
        between("k12", "l12", "a13", false);
        between("k23", "l23", "a24", false);
        between("l1", "l2", "l3", true);
        between("l11", "l12", "l13", true);
    }

    private static void row1() {
        between("a1", "b1", "c1", true);
        between("j1", "k1", "l1", true);
        Desk desk = new Desk().put("c1", "2").put("c2", "1").put("c24", "1");
        Expect.same("row 24 is not above row 1", desk.findingsButDead(), "");
    }

    private static void row24() {
        between("a24", "b24", "c24", true);
        between("j24", "k24", "l24", true);
        Desk desk = new Desk().put("c24", "2").put("c23", "1").put("c1", "1");
        Expect.same("row 1 is not below row 24", desk.findingsButDead(), "");
    }

    private static void corners() {
        for (String corner : new String[] {"a1", "l1", "a24", "l24"}) {
            Desk desk = new Desk();
            for (String row : new String[] {"1", "2", "23", "24"}) {
                desk.put("a" + row, "1").put("b" + row, "1").put("k" + row, "1").put("l" + row, "1");
            }
            desk.put(corner, "2");
            Expect.same(corner, desk.findingsButDead(), "");
            desk.put(corner, 2);
            Expect.same(corner + " typed", desk.findingsButDead(), "");
        }
    }

    private static void besideTheEdges() {
        between("a5", "b5", "c5", true);
        between("j5", "k5", "l5", true);
        between("f1", "f2", "f3", true);
        between("f22", "f23", "f24", true);
    }

    private static void oneNeighbour() {
        for (String neighbour : new String[] {"e5", "g5", "f4", "f6"}) {
            Desk desk = new Desk().put("f5", "2").put(neighbour, "1");
            Expect.same("with " + neighbour, desk.findingsButDead(), "");
        }
        Desk desk = new Desk().put("f5", "2").put("e5", "1").put("f6", "1");
        Expect.same("left and lower", desk.findingsButDead(), "");
        desk.put("f4", "3").put("g5", "3");
        Expect.same("crosswise", desk.findingsButDead(), "");
    }

    private static void twoFamilies() {
        Desk desk = new Desk().put("e5", "1").put("f5", "2").put("g5", "3");
        Expect.same("odd", desk.findingsButDead(), "");
        desk.put("f5", 2).put("g5", "$e$1").put("e5", "$e$2");
        Expect.same("typed", desk.findingsButDead(), "");
        desk.put("e5", "e1").put("g5", "e1");
        Expect.same("alike as texts, not as copies", desk.findingsButDead(), "");
        desk.put("g5", "g1");
        Expect.same("as copies", desk.findingsButDead(), "2 f5 e5");
    }

    private static void ownFamily() {
        Desk desk = new Desk().put("e5", "e1").put("f5", "f1").put("g5", "g1");
        Expect.same("of the row", desk.findingsButDead(), "");
        desk.put("f4", "f3").put("f6", "f5");
        Expect.same("but not of the column", desk.findingsButDead(), "1 f5 f4");
    }

    private static void noFormulas() {
        Desk desk = new Desk().put("e5", 1).put("f5", 2).put("g5", 1);
        Expect.same("numbers", desk.findingsButDead(), "");
        desk.put("f5", "2");
        Expect.same("numbers beside a formula", desk.findingsButDead(), "");
        desk.put("e5", "1");
        Expect.same("a formula and a number", desk.findingsButDead(), "");
        desk = new Desk().put("f5", "2");
        Expect.same("EMPTY cells", desk.findingsButDead(), "");
    }

    private static void leftGoesFirst() {
        Desk desk = new Desk().put("e5", "1").put("g5", "1").put("f4", "3").put("f6", "3").put("f5", 2);
        Expect.same("one finding alone, the left neighbour's", desk.findingsButDead(), "2 f5 e5");
        desk.put("f5", "2");
        Expect.same("odd likewise", desk.findingsButDead(), "1 f5 e5");
        desk.put("f5", "1");
        Expect.same("of the row's family", desk.findingsButDead(), "1 f5 f4");
        desk.put("f5", "3");
        Expect.same("of the column's family", desk.findingsButDead(), "1 f5 e5");
    }

    private static void emptyCell() {
        Desk desk = new Desk().put("e5", "1").put("g5", "1").put("f4", "1").put("f6", "1");
        Expect.same("between four", desk.findingsButDead(), "");
        desk.put("f5", 0);
        Expect.same("a 0 is not EMPTY", desk.findingsButDead(), "2 f5 e5");
    }

    private static void spanToRow24() {
        Desk desk = new Desk().put("a23", 1).put("a24", 1).put("a1", 1).put("h8", "sum(a22:a24)");
        Expect.same("nothing is below", desk.findingsButDead(), "");
        Expect.same("nothing to stretch to", desk.doctor.stretch(Desk.at("h8"), 0), -1);
        desk.put("h8", "sum(a22:a23)");
        Expect.same("one above", desk.findingsButDead(), "3 h8 a24");
        Expect.same("stretched", desk.doctor.stretch(Desk.at("h8"), 0), 1);
        desk.put("l24", 1).put("l23", 1).put("h8", "sum(l20:l24)");
        Expect.same("at the last place", desk.findingsButDead(), "");
    }

    private static void spanToColumnL() {
        Desk desk = new Desk().put("k3", 1).put("l3", 1).put("a4", 1).put("a3", 1).put("h8", "sum(k3:l3)");
        Expect.same("the next row is not to the right", desk.findingsButDead(), "");
        Expect.same("nothing to stretch to", desk.doctor.stretch(Desk.at("h8"), 0), -1);
        desk.put("h8", "sum(j3:k3)");
        Expect.same("one before", desk.findingsButDead(), "3 h8 l3");
        Expect.same("stretched", desk.doctor.stretch(Desk.at("h8"), 0), 1);
        desk.put("l24", 1).put("h8", "sum(k24:l24)");
        Expect.same("at the last place", desk.findingsButDead(), "");
        desk.put("h8", "sum(l24:l24)");
        Expect.same("that alone", desk.findingsButDead(), "");
    }

    private static void spanBeforeOwn() {
        Desk desk = new Desk().put("c1", 1).put("c2", 1).put("c3", "sum(c1:c2)").put("d1", "sum(c1:c1)");
        Expect.same("below and right", desk.findingsButDead(), "3 d1 c2");
        desk.put("c4", "sum(c1:c2)");
        Expect.same("another formula in between", desk.findingsButDead(), "3 d1 c2");
        desk = new Desk().put("c1", "1").put("c2", "1+sum(c1:c1)").put("d1", "1");
        Expect.same("its own, whatever family", desk.findingsButDead(), "3 c2 d1");
        Expect.same("stretched to the right", desk.doctor.stretch(Desk.at("c2"), 0), 1);
        Expect.same("not down into itself", desk.value("c2"), 3);
    }

    private static void spanOfOne() {
        Desk desk = new Desk().put("c3", 1).put("c4", 1).put("d3", 1).put("h8", "sum(c3:c3)");
        Expect.same("below, then right", desk.findingsButDead(), "3 h8 c4, 3 h8 d3");
        desk.doctor.empty(Desk.at("c4"));
        Expect.same("right alone", desk.findingsButDead(), "3 h8 d3");
        desk.put("c4", 1);
        desk.doctor.empty(Desk.at("d3"));
        Expect.same("below alone", desk.findingsButDead(), "3 h8 c4");
        desk.put("h8", "c3");
        Expect.same("a REF is no SPAN", desk.findingsButDead(), "");
    }

    private static void block() {
        Desk desk = new Desk();
        for (int place = 0; place < 48; place++) {
            desk.doctor.number(place, 1);
        }
        desk.put("h8", "sum(b2:c3)");
        Expect.same("two by two", desk.findingsButDead(), "");
        Expect.same("not stretched", desk.doctor.stretch(Desk.at("h8"), 0), -1);
    }

    private static void oneColumn() {
        Desk desk = new Desk().put("c3", 1).put("c4", 1).put("d3", 1).put("d4", 1).put("h8", "sum(c3:c4)");
        Expect.same("not right", desk.findingsButDead(), "");
        desk.put("c5", 1);
        Expect.same("below", desk.findingsButDead(), "3 h8 c5");
    }

    private static void oneRow() {
        Desk desk = new Desk().put("c3", 1).put("d3", 1).put("c4", 1).put("d4", 1).put("h8", "sum(c3:d3)");
        Expect.same("not below", desk.findingsButDead(), "");
        desk.put("e3", 1);
        Expect.same("right", desk.findingsButDead(), "3 h8 e3");
    }

    private static void nextCell() {
        Desk desk = new Desk().put("c3", 1).put("h8", "sum(c2:c3)");
        Expect.same("EMPTY", desk.findingsButDead(), "");
        desk.put("c4", "1");
        Expect.same("a FORMULA below a NUMBER", desk.findingsButDead(), "");
        desk.put("c4", 0);
        Expect.same("a NUMBER of 0", desk.findingsButDead(), "3 h8 c4");
        desk.put("c3", "1");
        Expect.same("a NUMBER below a FORMULA", desk.findingsButDead(), "3 h8 c4");
        desk.doctor.empty(Desk.at("c3"));
        Expect.same("a NUMBER below an EMPTY cell", desk.findingsButDead(), "3 h8 c4");
        desk.put("c4", "1");
        Expect.same("a FORMULA below an EMPTY cell", desk.findingsButDead(), "");
        desk.doctor.empty(Desk.at("c4"));
        desk.put("c5", 1);
        Expect.same("one further is too far", desk.findingsButDead(), "");
    }

    private static void lastCell() {
        Desk desk = new Desk().put("c2", "$k$1").put("c3", "$k$1").put("c4", "$k$1").put("h8", "sum(c2:c3)");
        Expect.same("of its FAMILY", desk.findingsButDead(), "3 h8 c4");
        desk.put("c3", "$k$2").put("c2", "$k$2");
        Expect.same("of another", desk.findingsButDead(), "");
        desk.put("c2", "$k$1");
        Expect.same("of the first cell's, not the last one's", desk.findingsButDead(), "1 c3 c2");
        desk.put("c4", "1/0").put("c3", "1/0");
        Expect.same("ERRORS are no hindrance", desk.findingsButDead(), "3 h8 c4");
    }

    private static void spanOverOwn() {
        Desk desk = new Desk().put("c3", "sum(c1:c3)").put("c4", 1);
        Expect.same("a RING may be SHORT", desk.findingsButDead(), "3 c3 c4");
        desk.put("c4", "sum(c2:c4)");
        Expect.same("its FAMILY is that of its last cell", desk.findingsButDead(), "3 c3 c4");
        desk.put("c4", "sum(c1:c4)");
        Expect.same("another FAMILY", desk.findingsButDead(), "");
    }

    private static void waysForTwice() {
        Desk desk = new Desk().put("a1", 1).put("b1", "a1").put("h8", "b1");
        Expect.same("1 way", desk.findingsButDead(), "");
        desk.put("h8", "b1+a1");
        Expect.same("2 ways", desk.findingsButDead(), "4 h8 a1");
        desk.put("h8", "b1+a1+b1");
        Expect.same("3 ways, one finding", desk.findingsButDead(), "4 h8 a1");
        desk.put("h9", "h8");
        Expect.same("and so on", desk.findingsButDead(), "4 h8 a1, 4 h9 a1");
    }

    private static void leastTwice() {
        Desk desk = new Desk().put("a1", 1).put("l24", 1).put("h8", "a1+l24+l24");
        Expect.same("the last place", desk.findingsButDead(), "4 h8 l24");
        desk.put("h8", "l24+l24+a1+a1");
        Expect.same("the first", desk.findingsButDead(), "4 h8 a1");
        desk.put("a1", "7");
        Expect.same("a formula that is no TOTAL", desk.findingsButDead(), "4 h8 a1");
        desk.put("a1", "l24");
        Expect.same("a TOTAL has no WAYS", desk.findingsButDead(), "4 h8 l24");
        desk.doctor.empty(287);
        Expect.same("an EMPTY cell has none", desk.findingsButDead(), "");
    }

    private static void twiceOfTotals() {
        Desk desk = new Desk().put("a1", 1);
        for (String text : new String[] {"a1-a1", "a1*a1", "(a1+a1)", "a1+a1+0", "-a1+a1", "a1+a1+h8"}) {
            desk.put("h8", text);
            Expect.same(text, desk.findingsButDead(), "");
        }
    }

    private static void keptNotDead() {
        Desk desk = new Desk().put("a1", 1).put("l24", "1");
        Expect.same("not KEPT", desk.findings(), "5 a1 -, 5 l24 -");
        desk.doctor.keep(287, true);
        Expect.same("one KEPT", desk.findings(), "5 a1 -");
        desk.doctor.keep(0, true);
        Expect.same("both KEPT", desk.findings(), "");
        desk.doctor.keep(287, false);
        Expect.same("no more", desk.findings(), "5 l24 -");
    }

    private static void keptOthers() {
        Desk desk = new Desk();
        for (int place = 0; place < 288; place++) {
            desk.doctor.keep(place, true);
        }
        desk.put("b2", "sum(i2:i2)").put("c2", "sum(i3:i3)+sum(i3:i3)").put("d2", "sum(k2:k2)");
        desk.put("i3", 2).put("i4", 1).put("g2", "7").put("g3", 5).put("g4", "7").put("h9", "h8+1").put("h8", 1);
        desk.unit("h8", 1, 0, 0);
        Expect.same("all but DEAD", desk.findings(),
                "3 b2 i3, 1 c2 b2, 3 c2 i4, 3 c2 i4, 4 c2 i3, 2 g3 g2, 6 h9 -");
    }

    private static void reads() {
        Desk desk = new Desk().put("c3", 1);
        for (String text : new String[] {"c3", "0*c3", "sum(a1:c3)", "sum(c3:l7)", "sum(c3:c3)", "1/0+c3", "h8+c3"}) {
            desk.put("h8", text);
            Expect.same("read by " + text, desk.findings().contains("5 c3") ? 1 : 0, 0);
        }
        for (String text : new String[] {"c4", "sum(a1:b24)+sum(d1:g24)", "sum(a1:l2)", "3"}) {
            desk.put("h8", text);
            Expect.same("not read by " + text, desk.findings().contains("5 c3") ? 1 : 0, 1);
        }
        desk = new Desk().put("c3", "c3");
        Expect.same("read by itself", desk.findings(), "");
    }

    private static void byPlaces() {
        Desk desk = new Desk().put("l24", 1).put("a24", 1).put("l1", 1).put("b1", 1).put("a2", 1).put("a1", 1);
        Expect.same("row by row", desk.findings(), "5 a1 -, 5 b1 -, 5 l1 -, 5 a2 -, 5 a24 -, 5 l24 -");
    }

    private static void byKinds() {
        Desk desk = new Desk().put("i3", 2).put("i4", 1).put("i5", 3).unit("i4", 1, 0, 0);
        desk.put("b2", "7").put("d2", "7").put("c2", "i3+sum(i3:i4)");
        for (String kept : new String[] {"b2", "d2"}) {
            desk.doctor.keep(Desk.at(kept), true);
        }
        Expect.same("ODD, SHORT, TWICE, DEAD, CLASH", desk.findings(),
                "1 c2 b2, 3 c2 i5, 4 c2 i3, 5 c2 -, 6 c2 -, 5 i5 -");
        desk.put("c2", 5);
        Expect.same("TYPED, DEAD", desk.findings(), "2 c2 b2, 5 c2 -, 5 i3 -, 5 i4 -, 5 i5 -");
    }

    private static void ofOneKind() {
        Desk desk = new Desk().put("b2", 1).put("c2", 1).put("b3", 1).put("f5", 1).put("f6", 1);
        desk.put("h8", "sum(f5:f5)*(sum(b2:b2)-sum(f4:f5))");
        Expect.same("of each sum( ) below, then right", desk.findingsButDead(),
                "3 h8 f6, 3 h8 b3, 3 h8 c2, 3 h8 f6");
        desk.put("h8", "-sum(b2:b2)/sum(f5:f5)");
        Expect.same("the other way round", desk.findingsButDead(), "3 h8 b3, 3 h8 c2, 3 h8 f6");
    }
}
