/** The boundaries that the document's first terms name: the sheet, the tape, the tokens, the parts, the faults. */
public final class EdgesOfTerms1Test {
    private static final int CANT_STAND = 1;
    private static final int NO_ROW = 4;
    private static final int TOO_DEEP = 5;
    private static final int LEFT = 6;
    private static final int ABOVE = 7;

    public static void main(String[] args) {
        Expect.edge("the sheet's first and last column and row", EdgesOfTerms1Test::corners);
        Expect.edge("what is beyond the sheet's sides", EdgesOfTerms1Test::beyondTheSides);
        Expect.edge("a cell is EMPTY at first", EdgesOfTerms1Test::emptyAtFirst);
        Expect.edge("the TAPE's 120 signs", EdgesOfTerms1Test::fullTape);
        Expect.edge("the TAPE's signs 32 .. 126", EdgesOfTerms1Test::signsOfTheTape);
        Expect.edge("what reads the TAPE takes it", EdgesOfTerms1Test::taken);
        Expect.edge("what was on the TAPE before", EdgesOfTerms1Test::signsOfBefore);
        Expect.edge("blanks between tokens, not within", EdgesOfTerms1Test::blanks);
        Expect.edge("WORDS of 3 letters at most", EdgesOfTerms1Test::words);
        Expect.edge("WORDS: the letters a to z alone", EdgesOfTerms1Test::letters);
        Expect.edge("NUMBERS of 1 to 6 digits", EdgesOfTerms1Test::numbers);
        Expect.edge("the signs of the tokens and no others", EdgesOfTerms1Test::signs);
        Expect.edge("tokens as long as can be", EdgesOfTerms1Test::longTokens);
        Expect.edge("a row's NUMBER 1 .. 24", EdgesOfTerms1Test::rows);
        Expect.edge("a column's letter a .. l", EdgesOfTerms1Test::columns);
        Expect.edge("8 PARTS within one another", EdgesOfTerms1Test::eightParts);
        Expect.edge("a PART within 8 others", EdgesOfTerms1Test::nineParts);
        Expect.edge("PARTS beside one another", EdgesOfTerms1Test::partsBeside);
        Expect.edge("a SPAN's second REF left of the first", EdgesOfTerms1Test::leftOfFirst);
        Expect.edge("a SPAN's second REF above the first", EdgesOfTerms1Test::aboveFirst);
        Expect.edge("a SPAN of one cell and one of all", EdgesOfTerms1Test::smallestAndLargestSpan);
        Expect.edge("the end of the text", EdgesOfTerms1Test::end);
        Expect.edge("the last place of a full TAPE", EdgesOfTerms1Test::lastPlace);
        Expect.edge("the first wrong token from the left", EdgesOfTerms1Test::firstWrong);
        Expect.edge("of one token the least fault", EdgesOfTerms1Test::leastFault);
        Expect.edge("dollars", EdgesOfTerms1Test::dollars);
        Expect.end();
    }

    private static void fault(String text, int kind, int at) {
        Expect.same("fault of '" + text + "'", new Desk().formula("f12", text), kind + 16 * at);
    }

    private static void accepted(String text) {
        Expect.same("fault of '" + text + "'", new Desk().formula("f12", text), 0);
    }

    private static String many(String text, int times) {
        return text.repeat(times);
    }

    private static void corners() {
        Desk desk = new Desk();
        int[] places = {0, 11, 12, 276, 287};
        String[] names = {"a1", "l1", "a2", "a24", "l24"};
        for (int i = 0; i < places.length; i++) {
            Expect.yes("put to " + names[i], desk.doctor.number(places[i], 100 + i));
            desk.put("f12", names[i]);
            Expect.same(names[i], desk.value("f12"), 100 + i);
        }
        for (int i = 0; i < places.length; i++) {
            Expect.same("formula at " + names[i], desk.formula(names[i], "7"), 0);
            Expect.same("kind at " + places[i], desk.doctor.cell(places[i], 0), 2);
        }
    }

    private static void beyondTheSides() {
        fault("m1", CANT_STAND, 0);
        fault("l25", NO_ROW, 1);
        fault("a0", NO_ROW, 1);
        Desk desk = new Desk();
        Expect.no("before the first", desk.doctor.number(-1, 1));
        Expect.no("behind the last", desk.doctor.number(288, 1));
    }

    private static void emptyAtFirst() {
        SheetDoctor doctor = new SheetDoctor();
        for (int place = 0; place < 288; place++) {
            Expect.same("kind of " + place, doctor.cell(place, 0), 0);
        }
    }

    private static void fullTape() {
        Desk desk = new Desk();
        Expect.same("119", desk.feed(many("1+", 59) + "1"), 119);
        Expect.same("119 are read", desk.doctor.formula(0), 0);
        Expect.same("their value", desk.value("a1"), 60);
        Expect.same("120", desk.feed(many("1+", 59) + "12"), 120);
        Expect.same("120 are read", desk.doctor.formula(0), 0);
        Expect.same("the last one, too", desk.value("a1"), 71);
        Expect.same("121", desk.feed(many("1+", 59) + "123"), 120);
        Expect.same("120 of them are read", desk.doctor.formula(0), 0);
        Expect.same("the last one not", desk.value("a1"), 71);
        desk.feed(many("1+", 60));
        Expect.same("full", desk.feed("1"), 120);
        Expect.same("nothing came behind it", desk.doctor.formula(0), CANT_STAND + 16 * 120);
    }

    private static void signsOfTheTape() {
        for (int sign = 0; sign < 256; sign++) {
            SheetDoctor doctor = new SheetDoctor();
            int due = sign >= 32 && sign <= 126 ? 1 : 0;
            Expect.same("sign " + sign, doctor.feed((long) sign << 56, 0, 0), due);
            Expect.same("sign " + sign + " behind", doctor.feed(0, 0, sign), 2 * due);
            Expect.same("signs after " + sign, doctor.count(4), 2 * due);
        }
    }

    private static void taken() {
        Desk desk = new Desk();
        for (String text : new String[] {"1+1", "1+", "#", "   "}) {
            desk.feed(text);
            desk.doctor.formula(0);
            Expect.same("signs after '" + text + "'", desk.doctor.count(4), 0);
        }
        desk.feed("1+1");
        desk.doctor.formula(288);
        Expect.same("signs after no such place", desk.doctor.count(4), 0);
        desk.put("a1", "5");
        Expect.same("nothing of them is left", desk.value("a1"), 5);
        desk.feed("1+1");
        desk.doctor.number(0, 1);
        desk.doctor.empty(0);
        desk.doctor.copy(0, 1);
        desk.doctor.check();
        desk.doctor.undo();
        Expect.same("others leave it alone", desk.doctor.count(4), 3);
    }

    private static void signsOfBefore() {
        Desk desk = new Desk();
        desk.formula("a1", "1+99999+bbb+ddd");
        desk.put("a1", "1+9");
        Expect.same("a NUMBER ends where the text does", desk.value("a1"), 10);
        Expect.same("a WORD, too", desk.formula("a1", "1+99999+b"), CANT_STAND + 16 * 9);
        Expect.same("a dollar, too", desk.formula("a1", "1+$"), CANT_STAND + 16 * 3);
        desk.put("b1", 5).put("a1", "1+b1");
        Expect.same("a REF, too", desk.value("a1"), 6);
    }

    private static void blanks() {
        accepted("   sum  (  $  a  $  1  :  b  2  )  *  -  (  3  )   ");
        accepted("sum(a1:b2)*-(3)");
        fault("su m(a1:b2)", CANT_STAND, 0);
        fault("s um(a1:b2)", CANT_STAND, 0);
        fault("a1 2", CANT_STAND, 3);
        fault("1 2", CANT_STAND, 2);
        accepted(many(" ", 119) + "1");
        accepted("1" + many(" ", 119));
        fault(many(" ", 120), CANT_STAND, 120);
    }

    private static void words() {
        accepted("a1");
        fault("ab1", CANT_STAND, 0);
        fault("abc1", CANT_STAND, 0);
        fault("1+abcd", CANT_STAND, 2);
        accepted("sum(a1:a2)");
        fault("1+summ(a1:a2)", CANT_STAND, 2);
        fault("1+sumsum(a1:a2)", CANT_STAND, 2);
        fault("sum(aa1:a2)", CANT_STAND, 4);
        fault("sum(a1:aaaa2)", CANT_STAND, 7);
        fault("sum(b1:aaaa2)", CANT_STAND, 7);
    }

    private static void letters() {
        fault("A1", CANT_STAND, 0);
        fault("L1", CANT_STAND, 0);
        fault("Sum(a1:a2)", CANT_STAND, 0);
        fault("suM(a1:a2)", CANT_STAND, 0);
        fault("`1", CANT_STAND, 0);
        fault("{1", CANT_STAND, 0);
        fault("a`1", CANT_STAND, 1);
        fault("a{1", CANT_STAND, 1);
        fault("z1", CANT_STAND, 0);
        fault("az1", CANT_STAND, 0);
        fault("1+za1", CANT_STAND, 2);
        fault("1+aa1", CANT_STAND, 2);
        fault("sumz(a1:a2)", CANT_STAND, 0);
        fault("suma(a1:a2)", CANT_STAND, 0);
    }

    private static void numbers() {
        Desk desk = new Desk();
        desk.put("a1", "0").put("a2", "9").put("a3", "999999").put("a4", "000000").put("a5", "000012");
        Expect.same("one digit", desk.value("a1") + " " + desk.value("a2"), "0 9");
        Expect.same("six digits", desk.value("a3") + " " + desk.value("a4") + " " + desk.value("a5"), "999999 0 12");
        fault("1000000", CANT_STAND, 0);
        fault("0000001", CANT_STAND, 0);
        fault("1+ 1234567", CANT_STAND, 3);
        fault("12345678901234567890", CANT_STAND, 0);
        accepted("a000001");
        fault("a0000001", CANT_STAND, 1);
        fault("a999999", NO_ROW, 1);
        fault("a/", CANT_STAND, 1);
        fault("1:", CANT_STAND, 1);
    }

    private static void signs() {
        accepted("(1)+2-3*4/5+sum(a1:$a$2)");
        for (char sign = '!'; sign <= '~'; sign++) {
            if ("()+-*/:$".indexOf(sign) < 0 && !Character.isLetterOrDigit(sign)) {
                fault("1 " + sign + " 1", CANT_STAND, 2);
                fault(sign + "1", CANT_STAND, 0);
            }
        }
    }

    private static void longTokens() {
        Desk desk = new Desk();
        desk.put("b12", 5).put("b1", 3).put("a1", "b12");
        Expect.same("b12 is not b1 and 2", desk.value("a1"), 5);
        desk.put("a1", "123");
        Expect.same("123 is one number", desk.value("a1"), 123);
        fault("suma1", CANT_STAND, 0);
        fault("sum1", CANT_STAND, 3);
        fault("1sum(a1:a2)", CANT_STAND, 1);
        fault("1a1", CANT_STAND, 1);
    }

    private static void rows() {
        accepted("a1");
        accepted("a24");
        accepted("sum(a1:a24)");
        fault("a0", NO_ROW, 1);
        fault("a25", NO_ROW, 1);
        fault("a$0", NO_ROW, 2);
        fault("$a$25", NO_ROW, 3);
        fault("sum(a0:a1)", NO_ROW, 5);
        fault("sum(a25:a1)", NO_ROW, 5);
        fault("sum(a1:a0)", NO_ROW, 8);
        fault("sum(a24:a25)", NO_ROW, 9);
        fault("1*(2+c 100)", NO_ROW, 7);
        fault("a-1", CANT_STAND, 1);
    }

    private static void columns() {
        for (char letter = 'a'; letter <= 'z'; letter++) {
            int due = letter <= 'l' ? 0 : 1;
            fault(letter + "1", due, 0);
            fault("1+$" + letter + "1", due, due * 3);
            fault("sum(" + letter + "1:l1)", due, due * 4);
            fault("sum(a1:" + letter + "1)", due, due * 7);
        }
    }

    private static void eightParts() {
        for (String inner : new String[] {"1", "a1", "$a1", "sum(a1:b2)"}) {
            accepted(many("(", 7) + inner + many(")", 7));
            accepted(many("-", 7) + inner);
            accepted(many("-(", 3) + "-" + inner + many(")", 3));
        }
        accepted("((((((-1))))))");
        Desk desk = new Desk();
        desk.put("a1", "(1+(1+(1+(1+(1+(1+(1+1)))))))");
        Expect.same("eight deep", desk.value("a1"), 8);
    }

    private static void nineParts() {
        for (String inner : new String[] {"1", "a1", "$a1", "sum(a1:b2)", "(1)", "-1"}) {
            fault(many("(", 8) + inner + many(")", 8), TOO_DEEP, 8);
            fault(many("-", 8) + inner, TOO_DEEP, 8);
            fault(many("-(", 4) + inner + many(")", 4), TOO_DEEP, 8);
        }
        fault(many("(", 7) + "1+-1" + many(")", 7), TOO_DEEP, 10);
        fault(many("( ", 8) + " 1", TOO_DEEP, 17);
        fault(many("(", 110), TOO_DEEP, 8);
        fault(many("-", 120), TOO_DEEP, 8);
    }

    private static void partsBeside() {
        accepted(many("(", 7) + "1+1*1/1-1" + many(")", 7) + "*" + many("-", 7) + "1");
        accepted("-1+-1*-1/-1--1--1--1--1--1--1");
        accepted(many("(1)+", 29) + "(1)");
        fault("(1)*(" + many("-", 7) + "1)", TOO_DEEP, 12);
    }

    private static void leftOfFirst() {
        accepted("sum(b1:b1)");
        accepted("sum(b1:c1)");
        accepted("sum(l1:l24)");
        fault("sum(b1:a1)", LEFT, 7);
        fault("sum(l1:k1)", LEFT, 7);
        fault("sum($b$1:$a$1)", LEFT, 10);
        fault("sum($b1: a1)", LEFT, 9);
        fault("1+sum(b1:a24)", LEFT, 9);
    }

    private static void aboveFirst() {
        accepted("sum(a2:a2)");
        accepted("sum(a2:a3)");
        accepted("sum(a24:l24)");
        fault("sum(a2:a1)", ABOVE, 8);
        fault("sum(a24:l23)", ABOVE, 9);
        fault("sum($a$2:$a$1)", ABOVE, 12);
        fault("sum(a$2:b 1)", ABOVE, 10);
        fault("1+sum(a2:l1)", ABOVE, 10);
    }

    private static void smallestAndLargestSpan() {
        Desk desk = new Desk();
        desk.put("c3", 5).put("f12", "sum(c3:c3)");
        Expect.same("one cell", desk.value("f12") + " " + desk.get("f12", Desk.READS), "5 1");
        desk.put("f12", "sum(a1:l24)");
        Expect.same("all cells", desk.get("f12", Desk.READS), 288);
    }

    private static void end() {
        fault("", CANT_STAND, 0);
        fault(" ", CANT_STAND, 1);
        fault("1+", CANT_STAND, 2);
        fault("1+   ", CANT_STAND, 5);
        fault("1*", CANT_STAND, 2);
        fault("-", CANT_STAND, 1);
        fault("(", CANT_STAND, 1);
        fault("(1", CANT_STAND, 2);
        fault("$", CANT_STAND, 1);
        fault("a", CANT_STAND, 1);
        fault("a$", CANT_STAND, 2);
        fault("sum", CANT_STAND, 3);
        fault("sum(", CANT_STAND, 4);
        fault("sum(a", CANT_STAND, 5);
        fault("sum(a1", CANT_STAND, 6);
        fault("sum(a1:", CANT_STAND, 7);
        fault("sum(a1:b", CANT_STAND, 8);
        fault("sum(a1:b2", CANT_STAND, 9);
        fault(many("(", 8), CANT_STAND, 8);
    }

    private static void lastPlace() {
        fault(many("1+", 59) + "1#", CANT_STAND, 119);
        fault(many("1+", 59) + "a0", NO_ROW, 119);
        fault(many("1+", 59) + " a", CANT_STAND, 120);
        fault(many("1+", 58) + " sum", CANT_STAND, 120);
        fault(many("1+", 58) + "abcd", CANT_STAND, 116);
        fault(many(" ", 113) + "1234567", CANT_STAND, 113);
        accepted(many(" ", 114) + "123456");
        fault(many("1+", 60), CANT_STAND, 120);
        fault(many(" ", 112) + many("-", 8), CANT_STAND, 120);
        fault(many(" ", 111) + many("-", 8) + "1", TOO_DEEP, 119);
    }

    private static void firstWrong() {
        fault("a0+#", NO_ROW, 1);
        fault("#+a0", CANT_STAND, 0);
        fault("sum(b2:a0)", LEFT, 7);
        fault("sum(b2:a1)", LEFT, 7);
        fault("sum(b2:a", LEFT, 7);
        fault("sum(b0:a1)", NO_ROW, 5);
        fault("sum(b2:b1", ABOVE, 8);
        fault("a25+sum(b2:a1)", NO_ROW, 1);
        fault(many("(", 8) + "a0", TOO_DEEP, 8);
        fault("a0+" + many("(", 8) + "1", NO_ROW, 1);
        fault("1 1234567", CANT_STAND, 2);
        fault("(1))+a0", CANT_STAND, 3);
    }

    private static void leastFault() {
        fault("sum(b2:b0)", NO_ROW, 8);
        fault("sum(b2:sum)", CANT_STAND, 7);
        fault("sum(b2:aa1)", CANT_STAND, 7);
        fault("sum(b2:b0000001)", CANT_STAND, 8);
        fault(many("(", 8) + "m1", CANT_STAND, 8);
        fault(many("(", 8) + "aa", CANT_STAND, 8);
        fault(many("(", 8) + "sums", CANT_STAND, 8);
        fault(many("(", 8) + "1234567", CANT_STAND, 8);
        fault(many("(", 8) + ")", CANT_STAND, 8);
        fault(many("(", 8) + ":", CANT_STAND, 8);
        fault(many("(", 8) + "#", CANT_STAND, 8);
    }

    private static void dollars() {
        accepted("$a1");
        accepted("a$1");
        accepted("$a$1");
        fault("$", CANT_STAND, 1);
        fault("$$a1", CANT_STAND, 1);
        fault("a$$1", CANT_STAND, 2);
        fault("a1$", CANT_STAND, 2);
        fault("$1", CANT_STAND, 1);
        fault("$sum(a1:a2)", CANT_STAND, 1);
        fault("$(a1)", CANT_STAND, 1);
        fault("sum($:a2)", CANT_STAND, 5);
    }
}
