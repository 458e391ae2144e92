/** The boundaries that the document's second terms name: values, errors, rings, copies, units, totals, ways. */
public final class EdgesOfTerms2Test {
    private static final int LEAST = Integer.MIN_VALUE;
    private static final int MOST = Integer.MAX_VALUE;
    private static final int ZERO = 1;
    private static final int RING = 2;

    public static void main(String[] args) {
        Expect.edge("values of 32 bits that wrap", EdgesOfTerms2Test::wraps);
        Expect.edge("the least by -1 is itself", EdgesOfTerms2Test::leastByMinusOne);
        Expect.edge("/ cuts towards 0", EdgesOfTerms2Test::cuts);
        Expect.edge("a division by 0", EdgesOfTerms2Test::divisionByZero);
        Expect.edge("EMPTY is 0", EdgesOfTerms2Test::emptyIsZero);
        Expect.edge("a RING of one", EdgesOfTerms2Test::ringOfOne);
        Expect.edge("a RING of more", EdgesOfTerms2Test::ringOfMore);
        Expect.edge("a RING of all cells", EdgesOfTerms2Test::ringOfAll);
        Expect.edge("a RING goes before other ERRORS", EdgesOfTerms2Test::ringGoesFirst);
        Expect.edge("what reads a RING", EdgesOfTerms2Test::readsRing);
        Expect.edge("a RING of half the sheet, and all else reads it", EdgesOfTerms2Test::ringAndItsReaders);
        Expect.edge("many ERRORS and a value behind them", EdgesOfTerms2Test::manyErrors);
        Expect.edge("the first ERROR that is read", EdgesOfTerms2Test::firstError);
        Expect.edge("the first ERROR of a SPAN", EdgesOfTerms2Test::firstErrorOfSpan);
        Expect.edge("a COPY off the sheet", EdgesOfTerms2Test::copyOffTheSheet);
        Expect.edge("a COPY whose second REF is left of the first", EdgesOfTerms2Test::copyLeft);
        Expect.edge("a COPY whose second REF is above the first", EdgesOfTerms2Test::copyAbove);
        Expect.edge("a COPY that always can be", EdgesOfTerms2Test::copyAlways);
        Expect.edge("FAMILIES: what is alike", EdgesOfTerms2Test::kin);
        Expect.edge("FAMILIES: what is not", EdgesOfTerms2Test::notKin);
        Expect.edge("exponents that wrap", EdgesOfTerms2Test::exponentsWrap);
        Expect.edge("the unit of a cell that is put anew", EdgesOfTerms2Test::putAnew);
        Expect.edge("a sum( ) without a cell that is not EMPTY", EdgesOfTerms2Test::sumOfEmpty);
        Expect.edge("the first cell of a sum( ) that is not EMPTY", EdgesOfTerms2Test::firstOfSum);
        Expect.edge("the unit of a RING and of what reads it", EdgesOfTerms2Test::unitOfRing);
        Expect.edge("a CLASH of what + - join", EdgesOfTerms2Test::clashOfJoined);
        Expect.edge("a CLASH of a SPAN's cells", EdgesOfTerms2Test::clashOfSpan);
        Expect.edge("what is no CLASH", EdgesOfTerms2Test::noClash);
        Expect.edge("what a TOTAL is", EdgesOfTerms2Test::isTotal);
        Expect.edge("what a TOTAL is not", EdgesOfTerms2Test::isNoTotal);
        Expect.edge("a TOTAL is in no RING", EdgesOfTerms2Test::totalAndRing);
        Expect.edge("WAYS by each REF and each sum( )", EdgesOfTerms2Test::waysByEach);
        Expect.edge("WAYS by a TOTAL that is read", EdgesOfTerms2Test::waysByTotal);
        Expect.edge("EMPTY cells and TOTALS have no WAYS", EdgesOfTerms2Test::noWays);
        Expect.end();
    }

    /** a1 is 7, b1 -7, c1 the most, d1 the least, e1 0, f1 -1; g1 is EMPTY. */
    private static Desk numbers() {
        return new Desk().put("a1", 7).put("b1", -7).put("c1", MOST).put("d1", LEAST).put("e1", 0).put("f1", -1);
    }

    private static void worth(String text, int value) {
        Desk desk = numbers().put("h8", text);
        Expect.same("value of " + text, desk.value("h8"), value);
        Expect.same("error of " + text, desk.get("h8", Desk.ERROR), 0);
    }

    /** a1 has ZERO, b1 is in a RING, c1 reads ZERO, d1 reads the RING, e1 is 5. */
    private static Desk errors() {
        return new Desk().put("a1", "1/0").put("b1", "b1").put("c1", "a1").put("d1", "b1").put("e1", 5);
    }

    private static void wrong(String text, int error) {
        Desk desk = errors().put("h8", text);
        Expect.same("error of " + text, desk.get("h8", Desk.ERROR), error);
        if (error != 0) {
            Expect.same("value of " + text, desk.value("h8"), 0);
        }
    }

    private static void wraps() {
        worth("c1+1", LEAST);
        worth("d1-1", MOST);
        worth("c1+c1", -2);
        worth("d1+d1", 0);
        worth("c1*2", -2);
        worth("c1*c1", 1);
        worth("d1*d1", 0);
        worth("d1*f1", LEAST);
        worth("-d1", LEAST);
        worth("-(d1)", LEAST);
        worth("0-d1", LEAST);
        worth("sum(c1:c1)+1", LEAST);
        worth("sum(a1:d1)", -1);
        worth("999999*999999", -729379967);
    }

    private static void leastByMinusOne() {
        worth("d1/f1", LEAST);
        worth("d1/-1", LEAST);
        worth("d1/(0-1)", LEAST);
        worth("d1/f1/f1", LEAST);
        worth("d1/1", LEAST);
        worth("(d1+1)/f1", MOST);
        worth("d1/d1", 1);
        worth("c1/d1", 0);
    }

    private static void cuts() {
        worth("a1/2", 3);
        worth("b1/2", -3);
        worth("a1/(0-2)", -3);
        worth("b1/(0-2)", 3);
        worth("1/a1", 0);
        worth("1/b1", 0);
        worth("d1/2", -1073741824);
        worth("a1/2*2", 6);
    }

    private static void divisionByZero() {
        wrong("1/0", ZERO);
        wrong("0/0", ZERO);
        wrong("1/k20", ZERO);
        wrong("1/(e1-5)", ZERO);
        wrong("e1/(1/2)", ZERO);
        wrong("1/sum(k20:l24)", ZERO);
        wrong("-(1/0)", ZERO);
        wrong("0*(1/0)", ZERO);
        wrong("1/0/1", ZERO);
        wrong("0/1", 0);
        wrong("0/e1", 0);
    }

    private static void emptyIsZero() {
        worth("g1", 0);
        worth("-g1", 0);
        worth("a1+g1", 7);
        worth("a1*g1", 0);
        worth("g1/a1", 0);
        worth("sum(g1:l7)", 0);
        Desk desk = numbers().put("h8", "a1+1");
        desk.doctor.empty(0);
        Expect.same("emptied", desk.value("h8"), 1);
        Expect.same("value of an EMPTY cell", desk.value("a1"), 0);
    }

    private static void ringOfOne() {
        for (String text : new String[] {"h8", "$h$8", "h8-h8", "0*h8", "sum(h8:h8)", "sum(a1:l24)", "1+(-h8)"}) {
            Desk desk = new Desk().put("h8", text);
            Expect.same("error of " + text + " at h8", desk.get("h8", Desk.ERROR), RING);
            Expect.same("value of " + text + " at h8", desk.value("h8"), 0);
            Expect.same("errors", desk.doctor.count(3), 1);
        }
        Desk desk = new Desk().put("h8", "sum(a1:h7)+sum(i8:l24)+sum(a9:l24)+sum(a8:g8)");
        Expect.same("all but itself", desk.get("h8", Desk.ERROR), 0);
    }

    private static void ringOfMore() {
        Desk desk = new Desk().put("a1", "l24").put("l24", "a1");
        Expect.same("of two", desk.get("a1", Desk.ERROR) + " " + desk.get("l24", Desk.ERROR), "2 2");
        desk.put("a1", "b1").put("b1", "sum(c1:d1)").put("d1", "2*l24");
        Expect.same("of four, by a span, too", desk.doctor.count(3), 4);
        desk.put("b1", "sum(c1:c1)");
        Expect.same("broken", desk.doctor.count(3), 0);
        desk.put("e1", "f1+g1").put("f1", "e1").put("g1", "e1");
        Expect.same("two that share a cell", desk.doctor.count(3), 3);
    }

    private static void ringOfAll() {
        Desk desk = new Desk().put("a1", "b1").put("l1", "a2").put("l24", "a1");
        for (int place = 1; place < 287; place++) {
            Expect.yes("copy to " + place, desk.doctor.copy(place % 12 == 11 ? 11 : 0, place));
        }
        Expect.same("errors", desk.doctor.count(3), 288);
        desk.put("f12", 4);
        Expect.same("broken", desk.doctor.count(3), 0);
        Expect.same("the value goes all the way round", desk.value("g12"), 4);
        Expect.same("taken back", desk.doctor.undo(), 288);
    }

    private static void ringGoesFirst() {
        wrong("1/0+h8", RING);
        wrong("a1+h8", RING);
        wrong("sum(a1:l24)/0", RING);
        Desk desk = new Desk().put("a1", "1/0+b1").put("b1", "1/0+a1");
        Expect.same("of two", desk.get("a1", Desk.ERROR) + " " + desk.get("b1", Desk.ERROR), "2 2");
    }

    private static void readsRing() {
        Desk desk = new Desk().put("a1", "b1").put("b1", "a1").put("c1", "a1").put("d1", "c1").put("e1", "e2");
        desk.put("c5", "c1+0*(1/1)");
        for (String name : new String[] {"c1", "d1", "c5"}) {
            Expect.same("error of " + name, desk.get(name, Desk.ERROR), RING);
        }
        Expect.same("what reads one is in none", desk.get("c1", Desk.TOTAL) + " " + desk.get("d1", Desk.TOTAL), "1 1");
        Expect.same("what is in one", desk.get("a1", Desk.TOTAL) + " " + desk.get("b1", Desk.TOTAL), "0 0");
        desk.put("g1", "a1+h1").put("h1", "i1").put("i1", "h1+a1");
        Expect.same("between two", desk.get("g1", Desk.ERROR) + " " + desk.get("g1", Desk.TOTAL), "2 1");
        desk.put("a1", "1/0");
        Expect.same("ZERO in the ring's stead", desk.get("d1", Desk.ERROR), ZERO);
        desk.put("a1", 4);
        Expect.same("without it", desk.value("d1"), 4);
    }

    private static void ringAndItsReaders() {
        Desk desk = new Desk().put("a1", "b1").put("l1", "a2").put("l12", "a1");
        for (int place = 1; place < 143; place++) {
            desk.doctor.copy(place % 12 == 11 ? 11 : 0, place);
        }
        desk.put("a13", "l12").put("b13", "a13");
        for (int place = 146; place < 288; place++) {
            desk.doctor.copy(place % 12 == 0 ? 144 : 145, place);
        }
        Expect.same("all have the ERROR", desk.doctor.count(3), 288);
        Expect.same("in the RING and behind it", desk.get("f12", Desk.TOTAL) + " " + desk.get("l24", Desk.TOTAL), "0 1");
        desk.put("a1", 3);
        Expect.same("broken", desk.doctor.count(3) + " " + desk.value("l24"), "0 3");
    }

    private static void manyErrors() {
        Desk desk = new Desk().put("a1", "1+(2*(3+(4/0)))").put("a2", "1+(2*(3+$a$2))");
        for (int place = 13; place < 200; place++) {
            desk.doctor.copy(place % 2 == 0 ? 0 : 12, place);
        }
        desk.put("l24", "1+(2*(3+4))").put("k24", "l24+1").put("j24", "(1+(2+a1))");
        Expect.same("a value", desk.value("l24"), 15);
        Expect.same("what reads it", desk.value("k24"), 16);
        Expect.same("an ERROR more", desk.get("j24", Desk.ERROR), ZERO);
        Expect.same("all of them", desk.doctor.count(3), 190);
    }

    private static void firstError() {
        wrong("a1+b1", ZERO);
        wrong("b1+a1", RING);
        wrong("c1-d1", ZERO);
        wrong("d1-c1", RING);
        wrong("1+e1*c1*d1", ZERO);
        wrong("1/0+b1", ZERO);
        wrong("b1+1/0", RING);
        wrong("b1/0", RING);
        wrong("e1/0*b1", ZERO);
        wrong("e1/(b1*0)", RING);
        wrong("e1*(1/0)*b1", ZERO);
        wrong("e1+b1*(1/0)", RING);
        wrong("-(-(b1))+a1", RING);
        wrong("sum(e1:e9)+a1+b1", ZERO);
        wrong("a1/a1", ZERO);
        wrong("0*b1", RING);
        wrong("e1+1", 0);
    }

    private static void firstErrorOfSpan() {
        wrong("sum(a1:b1)", ZERO);
        wrong("sum(b1:c1)", RING);
        Desk desk = new Desk().put("b1", "1/0").put("a2", "a2").put("h8", "sum(a1:b2)");
        Expect.same("row by row", desk.get("h8", Desk.ERROR), ZERO);
        desk.put("b1", "b1").put("a2", "1/0");
        Expect.same("the upper row goes first", desk.get("h8", Desk.ERROR), RING);
        desk.put("b1", 0).put("b2", "b2");
        Expect.same("each from the left", desk.get("h8", Desk.ERROR), ZERO);
        desk.put("a2", 0);
        Expect.same("the last cell, too", desk.get("h8", Desk.ERROR), RING);
    }

    private static void copyOffTheSheet() {
        Desk desk = new Desk().put("c3", "b2").put("d4", "k23").put("e5", "sum(b2:k23)");
        Expect.yes("up to column a", desk.copy("c3", "b3"));
        Expect.no("left of column a", desk.copy("c3", "a3"));
        Expect.yes("up to row 1", desk.copy("c3", "c2"));
        Expect.no("above row 1", desk.copy("c3", "c1"));
        Expect.yes("up to column l", desk.copy("d4", "e4"));
        Expect.no("right of column l", desk.copy("d4", "f4"));
        Expect.yes("up to row 24", desk.copy("d4", "d5"));
        Expect.no("below row 24", desk.copy("d4", "d6"));
        Expect.yes("a span to the corner", desk.copy("e5", "d4"));
        Expect.no("its first off to the left", desk.copy("e5", "c5"));
        Expect.no("its first off above", desk.copy("e5", "e3"));
        Expect.no("its second off to the right", desk.copy("e5", "g5"));
        Expect.no("its second off below", desk.copy("e5", "e7"));
        desk.put("f5", "1+f5*(2-l1)");
        Expect.no("one of several", desk.copy("f5", "g5"));
        Expect.same("refused, it stays EMPTY", desk.get("g5", Desk.KIND), 0);
    }

    private static void copyLeft() {
        Desk desk = new Desk().put("e5", "sum(b2:$d3)").put("e6", "sum($b2:d3)");
        Expect.yes("to the same column", desk.copy("e5", "g5"));
        Expect.no("the first moves past the fixed one", desk.copy("e5", "h5"));
        Expect.yes("to the same column, back", desk.copy("e6", "c6"));
        Expect.no("the second moves past the fixed one", desk.copy("e6", "b6"));
        Expect.same("refused", desk.get("h5", Desk.KIND) + " " + desk.get("b6", Desk.KIND), "0 0");
    }

    private static void copyAbove() {
        Desk desk = new Desk().put("e5", "sum(b2:c$4)").put("f5", "sum(b$2:c4)");
        Expect.yes("to the same row", desk.copy("e5", "e7"));
        Expect.no("the first moves past the fixed one", desk.copy("e5", "e8"));
        Expect.yes("to the same row, back", desk.copy("f5", "f3"));
        Expect.no("the second moves past the fixed one", desk.copy("f5", "f2"));
        Expect.same("refused", desk.get("e8", Desk.KIND) + " " + desk.get("f2", Desk.KIND), "0 0");
    }

    private static void copyAlways() {
        Desk desk = new Desk().put("a1", 5).put("b1", "1+2").put("c1", "$a$1+sum($a$1:$l$24)");
        for (String to : new String[] {"l1", "a24", "l24", "f12"}) {
            Expect.yes("a number to " + to, desk.copy("a1", to));
            Expect.yes("a formula without REFS to " + to, desk.copy("b1", to));
            Expect.yes("one of fixed REFS to " + to, desk.copy("c1", to));
            Expect.yes("an EMPTY cell to " + to, desk.copy("k20", to));
            Expect.same(to, desk.get(to, Desk.KIND), 0);
        }
        Expect.yes("a cell to its own place", desk.copy("c1", "c1"));
    }

    private static void kin(String one, String first, String other, String second, boolean are) {
        Desk desk = new Desk().put(one, first).put(other, second);
        Expect.same(first + " at " + one + " and " + second + " at " + other, desk.doctor.count(2), are ? 1 : 2);
    }

    private static void kin() {
        kin("a1", "l24", "a1", "l24", true);
        kin("b2", "a1", "l24", "k23", true);
        kin("a1", "b2", "k23", "l24", true);
        kin("a1", "$l$24", "l24", "$l$24", true);
        kin("a1", "a$24", "l24", "l$24", true);
        kin("a1", "$l1", "l24", "$l24", true);
        kin("a1", "sum(a1:b2)*1", "k23", " sum ( k23 : l24 ) * 1 ", true);
        kin("a1", "7", "l24", "7", true);
    }

    private static void notKin() {
        kin("b2", "a1", "l24", "l23", false);
        kin("b2", "a1", "l24", "k24", false);
        kin("a1", "$b1", "a2", "b2", false);
        kin("a1", "b$1", "b1", "c1", false);
        kin("a1", "$b$1", "a2", "$c$1", false);
        kin("a1", "$b$1", "a2", "$b$2", false);
        kin("a1", "b1", "b1", "sum(c1:c1)", false);
        kin("a1", "7", "a2", "8", false);
        kin("a1", "(7)", "a2", "7", false);
        kin("a1", "7+0", "a2", "7", false);
        kin("a1", "b1+c1", "a2", "c2+b2", false);
    }

    private static void exponentsWrap() {
        Desk desk = new Desk().put("a1", 1).unit("a1", 4, -4, -1);
        for (int row = 2; row <= 24; row++) {
            desk.put("a" + row, "a" + (row - 1) + "*a" + (row - 1));
        }
        for (int row = 2; row <= 24; row++) {
            int times = 1 << (row - 1);
            Expect.same("a" + row, desk.unitOf("a" + row), 4 * times + " " + -4 * times + " " + -times);
        }
        desk.put("b1", "a24*a24*a24*a24*a24*a24*a24*a24").put("b2", "b1*b1*b1*b1*b1*b1*b1*b1").put("b3", "b2*b2");
        Expect.same("both come to the least", desk.unitOf("b2"), LEAST + " " + LEAST + " " + -(1 << 29));
        Expect.same("twice that is 0", desk.unitOf("b3"), "0 0 " + -(1 << 30));
        desk.put("b4", "b2*a1").put("b5", "b3*b3").put("b6", "1/b5").put("b7", "b5*a1").put("b8", "b7/a1");
        Expect.same("4 more, 4 less", desk.unitOf("b4"), LEAST + 4 + " " + (MOST - 3) + " " + (-(1 << 29) - 1));
        Expect.same("the least", desk.unitOf("b5"), "0 0 " + LEAST);
        Expect.same("the least, taken away from 0", desk.unitOf("b6"), "0 0 " + LEAST);
        Expect.same("one less is the most", desk.unitOf("b7"), "4 -4 " + MOST);
        Expect.same("one more is the least again", desk.unitOf("b8"), "0 0 " + LEAST);
        desk.put("c1", "b5+b6-b8");
        Expect.same("wrapped alike they do not clash", desk.findings().contains("6 c1") ? 1 : 0, 0);
    }

    private static void putAnew() {
        Desk desk = new Desk().put("a1", 5).put("b1", 6);
        Expect.same("at first", desk.unitOf("a1"), "0 0 0");
        desk.unit("a1", 1, 2, 3).put("a1", 5);
        Expect.same("the same number again", desk.unitOf("a1"), "0 0 0");
        desk.unit("a1", 1, 2, 3).put("a1", "7").put("a1", 5);
        Expect.same("after a formula", desk.unitOf("a1"), "0 0 0");
        desk.unit("a1", 1, 2, 3);
        desk.doctor.empty(0);
        Expect.same("emptied", desk.unitOf("a1"), "0 0 0");
        desk.put("a1", 5);
        Expect.same("after that", desk.unitOf("a1"), "0 0 0");
        desk.unit("a1", 1, 2, 3).unit("b1", 4, 4, 4);
        desk.copy("b1", "a1");
        Expect.same("a number copied there", desk.unitOf("a1"), "0 0 0");
        Expect.same("the one it came from", desk.unitOf("b1"), "4 4 4");
        desk.copy("b1", "b1");
        Expect.same("copied to itself", desk.unitOf("b1"), "0 0 0");
    }

    private static void sumOfEmpty() {
        Desk desk = new Desk().put("a1", 5).unit("a1", 1, 2, 3).put("h8", "sum(b1:l3)").put("h9", "sum(b1:l3)+1");
        Expect.same("unit", desk.unitOf("h8"), "0 0 0");
        Expect.same("it joins 0s", desk.findingsButDead(), "");
        desk.put("h9", "sum(b1:l3)+a1");
        Expect.same("it does not join others", desk.findingsButDead(), "6 h9 -");
        desk.put("h8", "sum(b1:b1)*a1");
        Expect.same("unit of the product", desk.unitOf("h8"), "1 2 3");
        desk.put("h8", "sum(a1:l3)");
        desk.doctor.empty(0);
        Expect.same("emptied", desk.unitOf("h8"), "0 0 0");
    }

    private static void firstOfSum() {
        Desk desk = new Desk().put("c2", 5).unit("c2", 1, 2, 3).put("h8", "sum(a1:d4)");
        Expect.same("the only one", desk.unitOf("h8"), "1 2 3");
        desk.put("a3", 0);
        Expect.same("a later row", desk.unitOf("h8"), "1 2 3");
        desk.put("d2", 0);
        Expect.same("further right", desk.unitOf("h8"), "1 2 3");
        desk.put("d1", 0).unit("d1", 0, 0, 1);
        Expect.same("an upper row, though to the right", desk.unitOf("h8"), "0 0 1");
        desk.put("a1", "7");
        Expect.same("a formula", desk.unitOf("h8"), "0 0 0");
        desk.put("a1", "1/0*c2");
        Expect.same("one with an ERROR", desk.unitOf("h8"), "1 2 3");
    }

    private static void unitOfRing() {
        Desk desk = new Desk().put("a1", 5).unit("a1", 1, 2, 3).put("b1", "b1*a1").put("c1", "b1*a1").put("d1", "b1+a1");
        Expect.same("in a ring", desk.unitOf("b1"), "0 0 0");
        Expect.same("what reads it", desk.unitOf("c1"), "1 2 3");
        Expect.same("what joins it", desk.unitOf("d1"), "0 0 0");
        desk.put("e1", "e1+a1").put("f1", "f1+sum(a1:b1)");
        Expect.same("a ring never clashes, what reads it may", desk.findingsButDead(), "6 d1 -");
        desk.put("b1", "a1");
        Expect.same("no ring any more", desk.unitOf("c1"), "2 4 6");
    }

    /** a1 and a2 have the same unit; b1, c1, d1 differ from them in one exponent each; e1 has none; f1 is EMPTY. */
    private static boolean clash(String text) {
        Desk desk = new Desk().put("a1", 1).put("a2", 2).put("b1", 3).put("c1", 4).put("d1", 5).put("e1", 6);
        desk.unit("a1", 1, 1, 1).unit("a2", 1, 1, 1).unit("b1", 2, 1, 1).unit("c1", 1, 2, 1).unit("d1", 1, 1, 2);
        desk.put("h8", text);
        return desk.findings().contains("6 h8 -");
    }

    private static void clashOfJoined() {
        for (String text : new String[] {"a1+b1", "a1-c1", "a1+d1", "a1+1", "0-a1", "a1+f1", "a1+a2+b1", "a1+b1-a2",
            "1+(a1+b1)/a1", "-(a1-b1)", "a1*a1+a2", "a1+sum(e1:e1)", "a1+sum(f1:f9)", "e1+a1/a2-b1", "1/0*a1+b1"}) {
            Expect.yes(text, clash(text));
        }
    }

    private static void clashOfSpan() {
        for (String text : new String[] {"sum(a1:b1)", "sum(a1:b2)", "sum(c1:d1)", "sum(d1:e1)", "sum(a1:l7)",
            "0*sum(a1:b1)", "sum(a1:a2)*sum(b1:c1)", "a1+sum(a1:b1)"}) {
            Expect.yes(text, clash(text));
        }
    }

    private static void noClash() {
        for (String text : new String[] {"a1", "a1+a2", "a1-a2+a1", "a1*b1", "a1/b1", "a1*b1+b1*a2", "sum(a1:a2)",
            "sum(a1:a9)", "sum(f1:l7)", "sum(a1:a1)*sum(b1:b1)", "1+2", "1+f1", "e1+1", "a1/a2+1", "(a1+a2)*(b1+b1)",
            "7", "1/0", "sum(e1:l7)+1"}) {
            Expect.no(text, clash(text));
        }
    }

    private static int total(String text) {
        return new Desk().put("a1", 1).put("h8", text).get("h8", Desk.TOTAL);
    }

    private static void isTotal() {
        for (String text : new String[] {"a1", "$a$1", "k20", "sum(a1:a1)", "sum(a1:l7)", "a1+a1", "a1+sum(b1:c3)",
            "sum(b1:c3)+a1+a2+sum(a1:a4)+$b$3"}) {
            Expect.same(text, total(text), 1);
        }
    }

    private static void isNoTotal() {
        for (String text : new String[] {"7", "0+a1", "a1+0", "a1-a2", "a1*a2", "a1/a2", "-a1", "a1+-a2", "(a1)",
            "(a1+a2)", "a1+(a2)", "(sum(a1:a2))", "-sum(a1:a2)", "sum(a1:a2)*1", "a1+a2*a3", "a1+a2-a3"}) {
            Expect.same(text, total(text), 0);
        }
        Desk desk = new Desk().put("a1", 1);
        Expect.same("a NUMBER", desk.get("a1", Desk.TOTAL), 0);
        Expect.same("an EMPTY cell", desk.get("b1", Desk.TOTAL), 0);
    }

    private static void totalAndRing() {
        Desk desk = new Desk().put("a1", "a1").put("b1", "c1").put("c1", "b1").put("d1", "a1+b1").put("e1", "sum(a1:e1)");
        for (String name : new String[] {"a1", "b1", "c1", "e1"}) {
            Expect.same(name, desk.get(name, Desk.TOTAL), 0);
            Expect.same("ways into " + name, desk.ways("a1", name), -1);
        }
        Expect.same("what reads them", desk.get("d1", Desk.TOTAL), 1);
        Expect.same("ways into that", desk.ways("a1", "d1") + " " + desk.ways("b1", "d1"), "1 1");
    }

    private static void waysByEach() {
        Desk desk = new Desk().put("b2", 1).put("h8", "b2");
        Expect.same("a REF", desk.ways("b2", "h8"), 1);
        desk.put("h8", "b2+$b$2+b$2");
        Expect.same("three REFS", desk.ways("b2", "h8"), 3);
        desk.put("h8", "sum(a1:c3)");
        Expect.same("a sum", desk.ways("b2", "h8"), 1);
        desk.put("h8", "sum(b2:b2)+sum(b2:l7)+sum(a1:b2)+b2");
        Expect.same("each that has it", desk.ways("b2", "h8"), 4);
        desk.put("h8", "sum(a1:l1)+sum(a1:a7)+sum(c1:c7)+sum(a3:l7)");
        Expect.same("all round it", desk.ways("b2", "h8"), 0);
    }

    private static void waysByTotal() {
        Desk desk = new Desk().put("a1", 1).put("b1", "a1+a1").put("c1", "b1+b1+a1").put("d1", "sum(a1:c1)");
        Expect.same("as often as that has it", desk.ways("a1", "c1"), 5);
        Expect.same("each in the span", desk.ways("a1", "d1"), 1 + 2 + 5);
        desk.put("b1", "a1*2");
        Expect.same("no total any more", desk.ways("a1", "c1") + " " + desk.ways("b1", "c1"), "1 2");
        desk.put("b1", "b1+a1");
        Expect.same("in a ring", desk.ways("a1", "c1") + " " + desk.ways("b1", "c1"), "1 2");
    }

    private static void noWays() {
        Desk desk = new Desk().put("a1", 0).put("b1", "a1").put("c1", "a1+b1+d1+sum(a1:b1)").put("e1", "7").put("f1", "e1");
        Expect.same("a TOTAL that is read", desk.ways("b1", "c1"), 0);
        Expect.same("a TOTAL into itself", desk.ways("c1", "c1"), 0);
        Expect.same("an EMPTY cell", desk.ways("d1", "c1"), 0);
        Expect.same("a NUMBER of 0 has", desk.ways("a1", "c1"), 4);
        Expect.same("a FORMULA that is no TOTAL has", desk.ways("e1", "f1"), 1);
        desk.put("d1", 1);
        Expect.same("EMPTY no more", desk.ways("d1", "c1"), 1);
        desk.doctor.empty(0);
        Expect.same("EMPTY now", desk.ways("a1", "c1"), 0);
        desk.put("h1", "g1+g1");
        Expect.same("so nothing is summed twice", desk.findingsButDead(), "");
    }
}
