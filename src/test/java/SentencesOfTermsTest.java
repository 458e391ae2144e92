/** The document, sentence by sentence in its order: what it is, its constant, and the terms. */
public final class SentencesOfTermsTest {
    private static final int ZERO = 1;
    private static final int RING = 2;
    private static final int LEAST = Integer.MIN_VALUE;
    private static final int MOST = Integer.MAX_VALUE;

    public static void main(String[] args) {
        Expect.sentence("An object is used for at most 512 calls", SentencesOfTermsTest::calls);
        Expect.sentence("The constants: NONE = -1", SentencesOfTermsTest::constant);
        theSheet();
        values();
        families();
        units();
        totals();
        findings();
        Expect.end();
    }

    private static void calls() {
        SheetDoctor doctor = new SheetDoctor();
        for (int i = 0; i < 508; i++) {
            Expect.yes("call " + (i + 1), doctor.number(i % 288, i));
        }
        Expect.same("call 509", doctor.feed(Desk.pack("a1+l24", 0), 0, 0), 6);
        Expect.same("call 510", doctor.formula(100), 0);
        Expect.same("call 511", doctor.check(), 286);
        Expect.same("call 512", doctor.cell(100, 1), 288 + 287);
    }

    private static void constant() {
        Expect.same("NONE", SheetDoctor.NONE, -1);
    }

    // ==== 1

    private static void theSheet() {
        Expect.sentence("THE SHEET has columns a to l and rows 1 to 24", SentencesOfTermsTest::places);
        Expect.sentence("A cell is EMPTY (at first), a NUMBER, or a FORMULA", SentencesOfTermsTest::kinds);
        Expect.sentence("The TAPE has at most 120 signs, 32 .. 126", SentencesOfTermsTest::tape);
        Expect.sentence("what reads it takes it: it is empty then", SentencesOfTermsTest::taken);
        Expect.sentence("TOKENS, each as long as can be, blanks between", SentencesOfTermsTest::tokens);
        Expect.sentence("All else is none", SentencesOfTermsTest::noTokens);
        Expect.sentence("A NUMBER may stand right behind a WORD", SentencesOfTermsTest::numberBehindWord);
        Expect.sentence("FORMULA: E. E: PRODUCT { + or - PRODUCT }", SentencesOfTermsTest::sums);
        Expect.sentence("PRODUCT: PART { * or / PART }", SentencesOfTermsTest::products);
        Expect.sentence("PART: N, REF, sum ( SPAN ), ( E ), - PART", SentencesOfTermsTest::parts);
        Expect.sentence("8 PARTS within one another", SentencesOfTermsTest::partsWithin);
        Expect.sentence("REF: perhaps a dollar, a WORD of one letter", SentencesOfTermsTest::references);
        Expect.sentence("SPAN: REF : REF", SentencesOfTermsTest::spans);
        Expect.sentence("What has a dollar ahead is FIXED", SentencesOfTermsTest::fixed);
        Expect.sentence("FAULTS, of the first token from the left", SentencesOfTermsTest::firstFault);
        Expect.sentence("of the first token that is wrong the least", SentencesOfTermsTest::leastFault);
        Expect.sentence("the end being one at the text's length", SentencesOfTermsTest::endFault);
        Expect.sentence("4 a row's NUMBER that is not 1 .. 24", SentencesOfTermsTest::rowFault);
        Expect.sentence("6 left of the first one, 7 above that", SentencesOfTermsTest::spanFaults);
    }

    private static void fault(String text, int kind, int at) {
        Expect.same("fault of '" + text + "'", new Desk().formula("g9", text), kind + 16 * at);
    }

    private static void worth(String text, int value) {
        Desk desk = new Desk().put("a1", 5).put("a2", 7).put("b1", 11).put("b2", 13);
        desk.put("g9", text);
        Expect.same("error of '" + text + "'", desk.get("g9", Desk.ERROR), 0);
        Expect.same("value of '" + text + "'", desk.value("g9"), value);
    }

    private static void places() {
        Desk desk = new Desk();
        for (int column = 0; column < 12; column++) {
            String name = (char) ('a' + column) + "7";
            Expect.yes(name, desk.doctor.number(12 * 6 + column, 300 + column));
            desk.put("f20", name);
            Expect.same(name, desk.value("f20"), 300 + column);
        }
        for (int row = 1; row <= 24; row++) {
            String name = "c" + row;
            Expect.yes(name, desk.doctor.number(12 * (row - 1) + 2, 500 + row));
            desk.put("f20", name);
            Expect.same(name, desk.value("f20"), 500 + row);
        }
    }

    private static void kinds() {
        Desk desk = new Desk();
        Expect.same("at first", desk.get("k17", Desk.KIND), 0);
        Expect.same("a NUMBER", desk.put("k17", -3).get("k17", Desk.KIND), 1);
        Expect.same("a FORMULA", desk.put("k17", "3").get("k17", Desk.KIND), 2);
        Expect.yes("emptied", desk.doctor.empty(Desk.at("k17")));
        Expect.same("EMPTY", desk.get("k17", Desk.KIND), 0);
    }

    private static void tape() {
        SheetDoctor doctor = new SheetDoctor();
        Expect.same("31, 127, 128, 255 left out", doctor.feed(0x1f207e7f80ff0a31L, 0, 0), 3);
        Desk desk = new Desk();
        Expect.same("119 signs", desk.feed("1+".repeat(59) + "1"), 119);
        Expect.same("120 signs", desk.feed("2345"), 120);
        desk.doctor.formula(0);
        Expect.same("59 + 12", desk.doctor.cell(0, 1), 59 + 12);
    }

    private static void taken() {
        Desk desk = new Desk();
        desk.feed("12");
        Expect.same("on the TAPE", desk.doctor.count(4), 2);
        desk.doctor.formula(3);
        Expect.same("taken", desk.doctor.count(4), 0);
        desk.feed("12 12");
        desk.doctor.formula(3);
        Expect.same("taken with a FAULT", desk.doctor.count(4), 0);
        Expect.same("nothing of before", desk.formula("a1", ")"), 1);
    }

    private static void tokens() {
        Desk desk = new Desk().put("c5", "sum($a$1:b2)*12-3");
        desk.put("c6", "  sum ( $ a $ 1 : b 3 ) * 12 - 3 ");
        Expect.same("the same TOKENS", desk.get("c6", Desk.FAMILY), Desk.at("c5"));
        worth("123", 123);
        fault("12 3", 1, 3);
        fault("su m(a1:a2)", 1, 0);
        fault("a1 2", 1, 3);
    }

    private static void noTokens() {
        fault("1+abcd", 1, 2);
        fault("1+1234567", 1, 2);
        fault("1 + A1", 1, 4);
        fault("1+a1.5", 1, 4);
        fault("sums(a1:a2)", 1, 0);
        fault("a0000001", 1, 1);
        for (char sign : "!\"#%&',.;<=>?@[\\]^_`{|}~".toCharArray()) {
            fault("7 " + sign, 1, 2);
        }
    }

    private static void numberBehindWord() {
        worth("a2-b1", -4);
        fault("sum1", 1, 3);
        fault("1a", 1, 1);
    }

    private static void sums() {
        worth("2+3-4+10", 11);
        worth("10-3-2", 5);
        worth("1--1", 2);
        fault("+1", 1, 0);
        fault("1+", 1, 2);
        fault("1++1", 1, 2);
        fault("1 1", 1, 2);
    }

    private static void products() {
        worth("2*3/4*5", 5);
        worth("7-2*3", 1);
        worth("2*-3", -6);
        worth("100/7/2", 7);
        fault("*2", 1, 0);
        fault("2/", 1, 2);
        fault("2*/3", 1, 2);
    }

    private static void parts() {
        worth("999999", 999999);
        worth("a2", 7);
        worth("sum(a1:b2)", 36);
        worth("(a1+a2)*b1", 132);
        worth("-(-a1)-b2", -8);
        worth("-a1*b1", -55);
        fault("()", 1, 1);
        fault("sum(a1)", 1, 6);
        fault("(a1", 1, 3);
        fault("a1)", 1, 2);
        fault("-", 1, 1);
    }

    private static void partsWithin() {
        worth("-------9", -9);
        worth("(((((((3)))))))", 3);
        worth("(-(-(-(1))))", -1);
        fault("--------9", 5, 8);
        fault("((((((((3))))))))", 5, 8);
        fault("-(-(-(-(sum(a1:a2)))))", 5, 8);
        worth("-(-(-(-sum(a1:b2))))", 36);
    }

    private static void references() {
        worth("$a$1+$a1+a$1+a1", 20);
        worth("b02", 13);
        fault("$$a1", 1, 1);
        fault("a$$1", 1, 2);
        fault("a", 1, 1);
        fault("m1", 1, 0);
        fault("ab1", 1, 0);
        fault("$1", 1, 1);
        fault("$sum(a1:a2)", 1, 1);
        fault("a(1)", 1, 1);
    }

    private static void spans() {
        worth("sum(b2:b2)", 13);
        worth("sum($a$1:b$1)", 16);
        fault("b2:c3", 1, 2);
        fault("sum(b2:c3:d4)", 1, 9);
        fault("sum(1:2)", 1, 4);
        fault("sum b2", 1, 4);
        fault("sum()", 1, 4);
        fault("sum((a1):a2)", 1, 4);
        fault("sum(-a1:a2)", 1, 4);
    }

    private static void fixed() {
        Desk desk = new Desk().put("a1", 5).put("a2", 7).put("b1", 11).put("b2", 13);
        desk.put("d1", "a1+100*$a1+10000*a$1");
        Expect.yes("copied", desk.copy("d1", "e2"));
        Expect.same("what is FIXED stays", desk.value("e2"), 13 + 100 * 7 + 10000 * 11);
    }

    private static void firstFault() {
        fault("a25+b30+%", 4, 1);
        fault("a1+m1+a99", 1, 3);
        fault("a1+sum(b2:a1)+%", 6, 10);
        fault("--------1+a99", 5, 8);
    }

    private static void leastFault() {
        fault("sum(b2:b0)", 4, 8);
        fault("sum(b2:m1)", 1, 7);
        fault("--------*", 1, 8);
        fault("--------m1", 1, 8);
        fault("--------a99", 5, 8);
        fault("--------", 1, 8);
    }

    private static void endFault() {
        fault("", 1, 0);
        fault("1+  ", 1, 4);
        fault("sum(a1:a2", 1, 9);
        fault("   ", 1, 3);
    }

    private static void rowFault() {
        fault("c0", 4, 1);
        fault("c25", 4, 1);
        fault("1+$c $ 999999", 4, 7);
        fault("sum(a1:a25)", 4, 8);
        worth("a1+c24", 5);
    }

    private static void spanFaults() {
        fault("sum(c4:b5)", 6, 7);
        fault("sum(c4:$b5)", 6, 8);
        fault("sum(c4:c3)", 7, 8);
        fault("sum(c4:d$3)", 7, 9);
        fault("sum(c4:b3)", 6, 7);
    }

    // ==== 2, values

    private static void values() {
        Expect.sentence("VALUES are whole numbers of 32 bits that wrap", SentencesOfTermsTest::wrapping);
        Expect.sentence("A FORMULA READS the cells of its REFS and SPANS", SentencesOfTermsTest::reading);
        Expect.sentence("It is in a RING if it reads itself, and so on", SentencesOfTermsTest::rings);
        Expect.sentence("Else E is worked out from the left", SentencesOfTermsTest::firstError);
        Expect.sentence("EMPTY is 0", SentencesOfTermsTest::emptyIsNothing);
        Expect.sentence("/ cuts towards 0 (the least by -1 is itself)", SentencesOfTermsTest::division);
    }

    private static void wrapping() {
        Desk desk = new Desk().put("a1", MOST).put("a2", LEAST);
        Expect.same("+ 1", desk.put("b1", "a1+1").value("b1"), LEAST);
        Expect.same("* 2", desk.put("b1", "a1*2").value("b1"), -2);
        Expect.same("- the least", desk.put("b1", "-a2").value("b1"), LEAST);
        Expect.same("- - 2", desk.put("b1", "-a1-2").value("b1"), MOST);
        Expect.same("sum", desk.put("b1", "sum(a1:a2)+a2").value("b1"), MOST);
    }

    private static void reading() {
        Desk desk = new Desk().put("e5", "a1+sum(a1:b2)*c3/c3");
        Expect.same("cells that it READS", desk.get("e5", Desk.READS), 5);
        for (String name : new String[] {"a1", "b1", "a2", "b2", "c3"}) {
            Expect.same("who READS " + name, desk.get(name, Desk.READERS), 1);
        }
        Expect.same("who READS c2", desk.get("c2", Desk.READERS), 0);
    }

    private static void rings() {
        Desk desk = new Desk().put("a1", "a1").put("b1", "2*c1").put("c1", "sum(d1:d3)").put("d2", "-b1");
        desk.put("e1", "d2+1").put("f1", "d1");
        for (String name : new String[] {"a1", "b1", "c1", "d2"}) {
            Expect.same("error of " + name, desk.get(name, Desk.ERROR), RING);
            Expect.same("value of " + name, desk.value(name), 0);
        }
        Expect.same("it READS one that is in a RING", desk.get("e1", Desk.ERROR), RING);
        Expect.same("nothing to do with it", desk.get("f1", Desk.ERROR), 0);
        desk.put("d2", 4);
        Expect.same("no RING any more", desk.value("b1"), 8);
    }

    private static void firstError() {
        Desk desk = new Desk().put("a2", "1/0").put("b1", "b1");
        String[] texts = {"a2+b1", "b1+a2", "1/0+b1", "b1+1/0", "sum(a1:b2)", "sum(a2:b2)+b1", "0*(5/(3-3))",
            "1/a2", "b1/0", "(1-1/0)*b1", "1/0*b1", "a1/1*b1/0", "sum(a1:a2)"};
        int[] errors = {ZERO, RING, ZERO, RING, RING, ZERO, ZERO, ZERO, RING, ZERO, ZERO, RING, ZERO};
        for (int i = 0; i < texts.length; i++) {
            desk.put("e5", texts[i]);
            Expect.same("error of " + texts[i], desk.get("e5", Desk.ERROR), errors[i]);
            Expect.same("value of " + texts[i], desk.value("e5"), 0);
        }
    }

    private static void emptyIsNothing() {
        worth("l24+3", 3);
        worth("sum(c1:l8)-f3", 0);
        Desk desk = new Desk().put("a1", "1/l24");
        Expect.same("by EMPTY", desk.get("a1", Desk.ERROR), ZERO);
    }

    private static void division() {
        worth("7/2", 3);
        worth("-7/2", -3);
        worth("7/-2", -3);
        worth("-7/-2", 3);
        Desk desk = new Desk().put("a1", LEAST).put("b1", "a1/-1").put("b2", "a1/1");
        Expect.same("the least by -1", desk.value("b1"), LEAST);
        Expect.same("the least by 1", desk.value("b2"), LEAST);
        Expect.same("no ERROR", desk.get("b1", Desk.ERROR), 0);
    }

    // ==== 2, families

    private static void families() {
        Expect.sentence("of one if their TOKENS are alike one by one", SentencesOfTermsTest::alike);
        Expect.sentence("but REFS: FIXED alike, a FIXED column the same", SentencesOfTermsTest::alikeReferences);
        Expect.sentence("To COPY a cell to another place: the same", SentencesOfTermsTest::copies);
        Expect.sentence("it can't be if a REF would be off the sheet", SentencesOfTermsTest::offTheSheet);
        Expect.sentence("a SPAN's second left of the first or above it", SentencesOfTermsTest::turnedSpans);
    }

    private static void kin(String one, String other, boolean due) {
        Desk desk = new Desk().put("d4", one).put("e7", other);
        boolean got = desk.get("d4", Desk.FAMILY) == desk.get("e7", Desk.FAMILY);
        Expect.same(one + " in d4, " + other + " in e7", got ? 1 : 0, due ? 1 : 0);
        Expect.same("how many FAMILIES", desk.doctor.count(2), due ? 1 : 2);
    }

    private static void alike() {
        kin("a1+1", "b4+1", true);
        kin("a1+1", "b4+2", false);
        kin("a1+1", "b4-1", false);
        kin("a1+1", "(b4)+1", false);
        kin("a1+1", "1+b4", false);
        kin("a1+1", "b4+1+1", false);
        kin("sum(a1:b2)", "sum(b4:c5)", true);
        kin("sum(a1:b2)", "sum(b4:c6)", false);
        kin("sum(a1:a1)", "b4", false);
        kin("1-(2-3)", "(1-2)-3", false);
    }

    private static void alikeReferences() {
        kin("$a1", "$a4", true);
        kin("$a1", "$b4", false);
        kin("a$1", "b$1", true);
        kin("a$1", "b$4", false);
        kin("$a$1", "$a$1", true);
        kin("$a$1", "$b$4", false);
        kin("a1", "$b4", false);
        kin("a1", "b$4", false);
        kin("$c1", "c$4", false);
        kin("sum($a1:$b2)", "sum($a4:b5)", false);
        kin("e5", "f8", true);
        kin("e5", "e5", false);
    }

    private static void copies() {
        Desk desk = new Desk().put("a1", 6).put("b1", "a1*10").put("a2", 9);
        Expect.yes("a NUMBER", desk.copy("a1", "l24"));
        Expect.same("the same", desk.value("l24"), 6);
        Expect.yes("a FORMULA", desk.copy("b1", "b2"));
        Expect.same("moved as far", desk.value("b2"), 90);
        Expect.yes("EMPTY", desk.copy("c1", "a2"));
        Expect.same("EMPTY now", desk.get("a2", Desk.KIND), 0);
        Expect.same("read as 0", desk.value("b2"), 0);
    }

    private static void copying(String text, String home, String to, boolean due) {
        Desk desk = new Desk().put(home, text).put(to, 77);
        Expect.same(text + " from " + home + " to " + to, desk.copy(home, to) ? 1 : 0, due ? 1 : 0);
        Expect.same("what stands there", desk.get(to, Desk.KIND), due ? 2 : 1);
    }

    private static void offTheSheet() {
        copying("a1", "b2", "a2", false);
        copying("a1", "b2", "b1", false);
        copying("l24", "k23", "l23", false);
        copying("l24", "k23", "k24", false);
        copying("a1", "b2", "l24", true);
        copying("$a$1", "b2", "a1", true);
        copying("sum(b2:l3)", "a1", "b1", false);
        copying("sum(b2:$l3)", "a1", "b1", true);
        copying("b2+5*a1", "b2", "a3", false);
    }

    private static void turnedSpans() {
        copying("sum($b1:c1)", "e1", "d1", true);
        copying("sum($b1:c1)", "e1", "c1", false);
        copying("sum(b$2:b3)", "e5", "e4", true);
        copying("sum(b$2:b3)", "e5", "e3", false);
        copying("sum(b1:$c1)", "e1", "f1", true);
        copying("sum(b1:$c1)", "e1", "g1", false);
        copying("sum(b2:b$3)", "e5", "e7", false);
    }

    // ==== 2, units

    private static void units() {
        Expect.sentence("UNITS: three exponents that wrap", SentencesOfTermsTest::wrappingUnits);
        Expect.sentence("Of a NUMBER as told, of EMPTY and N 0, 0, 0", SentencesOfTermsTest::unitsOfNumbers);
        Expect.sentence("of a FORMULA: + -: that of the first PRODUCT", SentencesOfTermsTest::unitsOfFormulas);
        Expect.sentence("sum( ): that of its first cell that is not EMPTY", SentencesOfTermsTest::unitsOfSpans);
        Expect.sentence("Of one in a RING 0s", SentencesOfTermsTest::unitsOfRings);
        Expect.sentence("It CLASHES, if it is in no RING", SentencesOfTermsTest::clashes);
    }

    private static Desk measured() {
        Desk desk = new Desk().put("a1", 5).put("b1", 7).put("c1", 9);
        return desk.unit("a1", 1, -2, 3).unit("b1", 0, 4, -4);
    }

    private static void hasUnit(String text, String due) {
        Expect.same("unit of " + text, measured().put("f6", text).unitOf("f6"), due);
    }

    private static void wrappingUnits() {
        Desk desk = new Desk().put("a1", 1).unit("a1", 4, -4, 1).put("a2", "a1*a1");
        for (int row = 3; row <= 24; row++) {
            desk.copy("a2", "a" + row);
        }
        Expect.same("of a24", desk.unitOf("a24"), (1 << 25) + " " + -(1 << 25) + " " + (1 << 23));
        desk.put("b1", "a24*a24").put("b2", "b1*b1");
        for (int row = 3; row <= 7; row++) {
            desk.copy("b2", "b" + row);
        }
        Expect.same("of b6", desk.unitOf("b6"), LEAST + " " + LEAST + " " + (1 << 29));
        Expect.same("of b7", desk.unitOf("b7"), "0 0 " + (1 << 30));
    }

    private static void unitsOfNumbers() {
        Desk desk = measured();
        Expect.same("as told", desk.unitOf("a1"), "1 -2 3");
        Expect.same("at first", desk.unitOf("c1"), "0 0 0");
        Expect.same("EMPTY", desk.unitOf("d1"), "0 0 0");
        Expect.same("put anew", desk.put("a1", 5).unitOf("a1"), "0 0 0");
        Expect.yes("copied", desk.copy("b1", "a1"));
        Expect.same("a COPY is put anew", desk.unitOf("a1"), "0 0 0");
        hasUnit("12", "0 0 0");
        hasUnit("l24", "0 0 0");
    }

    private static void unitsOfFormulas() {
        hasUnit("a1+b1", "1 -2 3");
        hasUnit("b1-a1", "0 4 -4");
        hasUnit("a1*b1", "1 2 -1");
        hasUnit("a1/b1", "1 -6 7");
        hasUnit("1/a1/a1", "-2 4 -6");
        hasUnit("-a1", "1 -2 3");
        hasUnit("(b1-1)*a1", "1 2 -1");
        hasUnit("a1*(b1+a1)/b1", "1 -2 3");
        hasUnit("5+a1", "0 0 0");
    }

    private static void unitsOfSpans() {
        hasUnit("sum(a1:c1)", "1 -2 3");
        hasUnit("sum(b1:c1)", "0 4 -4");
        hasUnit("sum(d1:e9)", "0 0 0");
        Desk desk = new Desk().put("b1", 1).unit("b1", 1, 0, 0).put("a2", 2).unit("a2", 2, 0, 0);
        Expect.same("row by row", desk.put("f6", "sum(a1:b2)").unitOf("f6"), "1 0 0");
        Expect.same("EMPTY ones passed over", desk.put("f6", "sum(a1:a2)").unitOf("f6"), "2 0 0");
    }

    private static void unitsOfRings() {
        Desk desk = measured().put("d1", "a1*d1").put("e1", "a1*d1");
        Expect.same("in a RING", desk.unitOf("d1"), "0 0 0");
        Expect.same("one that READS it", desk.unitOf("e1"), "1 -2 3");
    }

    private static void clash(String text, boolean due) {
        Desk desk = measured().put("d1", "a1*2").put("f6", text);
        boolean got = desk.findings().contains("6 f6 -");
        Expect.same(text + " CLASHES", got ? 1 : 0, due ? 1 : 0);
    }

    private static void clashes() {
        clash("a1+b1", true);
        clash("a1-b1", true);
        clash("a1+d1", false);
        clash("a1+l24", true);
        clash("c1+l24+3", false);
        clash("a1*b1", false);
        clash("a1*b1-b1*a1", false);
        clash("2*(a1+b1)", true);
        clash("sum(a1:b1)", true);
        clash("sum(a1:a9)", false);
        clash("sum(c1:c9)", false);
        clash("sum(a1:a9)+d1", false);
        clash("sum(a1:d1)/a1", true);
        clash("a1+b1+f6", false);
        clash("a1-a1+b1", true);
    }

    // ==== 2, totals

    private static void totals() {
        Expect.sentence("A TOTAL is a FORMULA of REFS and sum( ) alone", SentencesOfTermsTest::whatIsATotal);
        Expect.sentence("read once by each REF, each sum( ) that has it", SentencesOfTermsTest::waysByReading);
        Expect.sentence("by a TOTAL that is read as often as that has it", SentencesOfTermsTest::waysByTotals);
        Expect.sentence("a TOTAL itself has no WAYS, EMPTY cells none", SentencesOfTermsTest::noWays);
    }

    private static void total(String text, boolean due) {
        Desk desk = new Desk().put("a1", 5).put("f6", text);
        Expect.same(text + " is a TOTAL", desk.get("f6", Desk.TOTAL), due ? 1 : 0);
    }

    private static void whatIsATotal() {
        total("a1", true);
        total("$a$1+sum(b1:c2)+a1", true);
        total("sum(b1:b1)", true);
        total("a1-b1", false);
        total("a1+1", false);
        total("(a1)", false);
        total("a1*b1", false);
        total("-a1", false);
        total("7", false);
        total("a1+f6", false);
        total("sum(a1:l24)", false);
        Expect.same("a NUMBER", new Desk().put("a1", 5).get("a1", Desk.TOTAL), 0);
    }

    private static void waysByReading() {
        Desk desk = new Desk().put("a1", 5).put("a2", 6).put("a3", "-a2").put("f6", "a1+sum(a1:a3)+sum($a$1:b1)+a3");
        Expect.same("a1", desk.ways("a1", "f6"), 3);
        Expect.same("a2", desk.ways("a2", "f6"), 1);
        Expect.same("a3, a FORMULA that is no TOTAL", desk.ways("a3", "f6"), 2);
    }

    private static void waysByTotals() {
        Desk desk = new Desk().put("a1", 5).put("a2", 6).put("c1", "a1+a1").put("c2", "sum(a1:a2)");
        desk.put("d1", "c1+sum(c1:c2)").put("e1", "d1+a1+2*c1").put("e2", "d1+a1");
        Expect.same("2 + 2 + 1", desk.ways("a1", "d1"), 5);
        Expect.same("by c2", desk.ways("a2", "d1"), 1);
        Expect.same("5 + 1", desk.ways("a1", "e2"), 6);
        Expect.same("no TOTAL", desk.ways("a1", "e1"), SheetDoctor.NONE);
    }

    private static void noWays() {
        Desk desk = new Desk().put("c1", "a1+a1").put("d1", "c1+a1");
        Expect.same("a TOTAL", desk.ways("c1", "d1"), 0);
        Expect.same("itself", desk.ways("d1", "d1"), 0);
        Expect.same("EMPTY", desk.ways("a1", "d1"), 0);
        desk.put("a1", 0);
        Expect.same("a NUMBER", desk.ways("a1", "d1"), 3);
    }

    // ==== 3

    private static void findings() {
        Expect.sentence("FINDINGS, by PLACES, of one by kinds, in order", SentencesOfTermsTest::order);
        Expect.sentence("1 ODD: a FORMULA; its left and right neighbours", SentencesOfTermsTest::odd);
        Expect.sentence("2 TYPED: a NUMBER, likewise", SentencesOfTermsTest::typed);
        Expect.sentence("Both with the left, upper neighbour's PLACE", SentencesOfTermsTest::leftBeforeUpper);
        Expect.sentence("3 SHORT: of each sum( ) in order", SentencesOfTermsTest::shortSums);
        Expect.sentence("then, if it is of one row, the cell right of it", SentencesOfTermsTest::shortRows);
        Expect.sentence("4 TWICE: with the least such PLACE", SentencesOfTermsTest::twice);
        Expect.sentence("5 DEAD: no FORMULA READS it, and not KEPT", SentencesOfTermsTest::dead);
        Expect.sentence("6 CLASH: with -1", SentencesOfTermsTest::clashFinding);
    }

    private static void order() {
        Desk desk = new Desk().put("a1", 1).unit("a1", 1, 0, 0).put("a2", 2).put("a3", 3).put("b1", 4);
        desk.put("d4", "9").put("f4", "9").put("e4", "sum(a1:a2)+sum(a1:a1)");
        Expect.same("all", desk.findings(), "5 b1 -, 5 a3 -, 5 d4 -, 1 e4 d4, 3 e4 a3, 3 e4 a2, 3 e4 b1, "
                + "4 e4 a1, 5 e4 -, 6 e4 -, 5 f4 -");
    }

    private static void odd() {
        Desk desk = new Desk().put("b5", "a5*2").put("c5", "b5*3").put("d5", "c5*2");
        Expect.same("between two of one FAMILY", desk.findingsButDead(), "1 c5 b5");
        desk.put("c5", "b5*2");
        Expect.same("of their FAMILY", desk.findingsButDead(), "");
        desk.put("c5", "b5*3").put("d5", "c5*4");
        Expect.same("between two of two", desk.findingsButDead(), "");
        desk.put("c4", "1").put("c6", "1");
        Expect.same("else its upper and lower ones", desk.findingsButDead(), "1 c5 c4");
        Desk edge = new Desk().put("l5", "9").put("a6", "8").put("b6", "9").put("a24", "8").put("a23", "9");
        Expect.same("not across the sheet's sides", edge.findingsButDead(), "");
    }

    private static void typed() {
        Desk desk = new Desk().put("b5", "a5*2").put("c5", 6).put("d5", "c5*2");
        Expect.same("between two of one FAMILY", desk.findingsButDead(), "2 c5 b5");
        desk.doctor.empty(Desk.at("c5"));
        Expect.same("EMPTY is not", desk.findingsButDead(), "");
        Desk upper = new Desk().put("b5", "a5*2").put("b6", 6).put("b7", "a7*2");
        Expect.same("upper and lower", upper.findingsButDead(), "2 b6 b5");
    }

    private static void leftBeforeUpper() {
        Desk desk = new Desk().put("b5", "7").put("d5", "7").put("c4", "8").put("c6", "8").put("c5", 1);
        Expect.same("both", desk.findingsButDead(), "2 c5 b5");
        desk.put("c5", "8");
        Expect.same("ODD to the left", desk.findingsButDead(), "1 c5 b5");
        desk.put("c5", "7");
        Expect.same("of the left FAMILY", desk.findingsButDead(), "1 c5 c4");
    }

    private static void shortSums() {
        Desk desk = new Desk().put("a1", 1).put("a2", 2).put("a3", 3).put("e9", "sum(a1:a2)+sum(a2:a3)+sum(a2:a2)");
        Expect.same("each in order", shortOnes(desk), "3 e9 a3, 3 e9 a3");
        desk.put("a4", "9");
        Expect.same("a FORMULA of another FAMILY than a NUMBER's", shortOnes(desk), "3 e9 a3, 3 e9 a3");
        desk.put("a3", "9");
        Expect.same("a FORMULA of that of the last cell", shortOnes(desk), "3 e9 a4");
        Desk own = new Desk().put("a1", 1).put("a2", "sum(a1:a1)");
        Expect.same("not the FORMULA's own", shortOnes(own), "");
        Desk last = new Desk().put("c1", "sum(a1:a24)").put("c2", "sum(a2:b3)").put("a4", 5);
        Expect.same("not below the sheet, not of two columns", shortOnes(last), "");
    }

    private static String shortOnes(Desk desk) {
        StringBuilder all = new StringBuilder();
        for (String one : desk.findings().split(", ")) {
            if (one.startsWith("3 ")) {
                all.append(all.length() == 0 ? "" : ", ").append(one);
            }
        }
        return all.toString();
    }

    private static void shortRows() {
        Desk desk = new Desk().put("a1", 1).put("b1", 2).put("c1", 3).put("a2", 4).put("e9", "sum(a1:b1)");
        Expect.same("to the right", shortOnes(desk), "3 e9 c1");
        desk.put("e9", "sum(a1:a1)");
        Expect.same("below, then right", shortOnes(desk), "3 e9 a2, 3 e9 b1");
        desk.put("e9", "sum(k1:l1)").put("a3", 1).put("l2", "5");
        Expect.same("not right of the sheet", shortOnes(desk), "");
        desk.put("k1", "5").put("l1", "5").put("e9", "sum(k1:k1)");
        Expect.same("of the last cell's FAMILY", shortOnes(desk), "3 e9 l1");
    }

    private static void twice() {
        Desk desk = new Desk().put("b2", 1).put("c3", 1).put("e9", "c3+b2+sum(b2:c3)");
        Expect.same("the least PLACE", desk.findingsButDead(), "4 e9 b2");
        desk.put("e9", "b2+sum(c3:d4)").put("f9", "e9+c3");
        Expect.same("by a TOTAL", desk.findingsButDead(), "4 f9 c3");
        desk.put("f9", "e9+c3+1");
        Expect.same("no TOTAL", desk.findingsButDead(), "");
        desk.put("f9", "e9+l24+l24+e9");
        Expect.same("EMPTY, TOTALS are not meant", desk.findingsButDead(), "4 f9 b2");
    }

    private static void dead() {
        Desk desk = new Desk().put("a1", 1).put("b1", "a1").put("c1", 2);
        Expect.same("nobody READS them", desk.findings(), "5 b1 -, 5 c1 -");
        desk.doctor.keep(Desk.at("c1"), true);
        Expect.same("KEPT", desk.findings(), "5 b1 -");
        desk.put("d1", "0*sum(b1:c1)");
        Expect.same("read", desk.findings(), "5 d1 -");
    }

    private static void clashFinding() {
        Desk desk = new Desk().put("a1", 1).unit("a1", 1, 0, 0).put("b1", "a1+1").put("c1", "b1+1+2");
        Expect.same("both", desk.findings(), "6 b1 -, 5 c1 -, 6 c1 -");
        Expect.same("the other number", desk.doctor.finding(0, 2), -1);
    }
}
