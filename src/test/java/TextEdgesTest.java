/**
 * The boundary cases of "2 TEXTS" and of promises 12 to 16. Each method tests one sentence of the document, which it
 * names.
 */
public final class TextEdgesTest {
    private static final String[] KEYS = {"camp", "skip", "quit", "draw"};
    private static final String[] NAMES = {"mn", "lf", "htsw", "dp"};
    private static final String JOINING = "|&<=>+-*/";
    private static final int TAKEN = -1;

    public static void main(String[] args) {
        textsAtMost();
        tapeAtMost();
        tapeIsUsedUp();
        tapeIsKept();
        keys();
        loosestFirst();
        leftFirst();
        oneTestAtMost();
        digits();
        names();
        anyByteBehindANumber();
        anyByteAheadOfANumber();
        anyByteAheadOfTheKey();
        anyByteAtTheEnd();
        blanks();
        textBehindText();
        textBehindFault();
        wordsNeedBlanks();
        noTextGoesOn();
        numbersTooLong();
        ninthBracket();
        ninthNot();
        eachByItself();
        endTooSoon();
        intsWrap();
        divisionByNothing();
        answersOfTests();
        cutsTowardsNothing();
        textThatCounts();
        campWithoutText();
        skipWithoutText();
        quitWithoutText();
        drawWithoutText();
        feedOrder();
        trimBounds();
        textBounds();
        faultPlaces();
        ofBounds();
        operandsCounted();
        whyBounds();
        Due.end("TextEdgesTest");
    }

    /** The place of the fault of a text of LAND 0, TAKEN if it has none. */
    private static void fault(String signs, int place) {
        LongTrail x = new LongTrail();
        Due.is("FAULT of <" + signs + ">", Due.text(x, 0, 0, signs), place == TAKEN ? 0 : -100 - place);
        Due.is("texts behind <" + signs + ">", x.count(10), place == TAKEN ? 1 : 0);
    }

    /** Whether E with the names of camp is 0 for one who sleeps alone at MILE 5. */
    private static boolean isZero(String e) {
        LongTrail x = new LongTrail();
        x.walker(0, 5, 0, 9, 9);
        Due.is("text of " + e, Due.text(x, 0, 0, "camp " + e), 0);
        x.run(1);
        return x.is(0, 12) == 1;
    }

    /** E and another E are worth the same. */
    private static void worth(String e, String same) {
        Due.is(e + " is worth " + same, isZero("(" + e + ")-(" + same + ")") ? 1 : 0, 1);
    }

    private static void textsAtMost() {
        Due.sentence("TEXTS, 12 at most, numbered from 0");
        LongTrail x = new LongTrail();
        Due.row("none", Due.ints(x.count(10), x.of(0, 0)), 0, Due.BAD);
        for (int i = 0; i < 12; i++) {
            Due.is("number of the next TEXT", Due.text(x, i % 4, i, KEYS[i % 4] + " 1"), i);
            Due.row("it is there, no other one is", Due.ints(x.of(i, 2), x.of(i + 1, 2)), i, Due.BAD);
        }
        Due.is("the 13th", Due.text(x, 0, 0, "camp 1"), Due.FULL);
        Due.row("how many", Due.ints(x.count(10), x.of(12, 0), x.of(11, 2), x.why(0, 0)), 12, Due.BAD, 11, 0);
    }

    private static void tapeAtMost() {
        Due.sentence("THE TAPE (96 bytes at most ..) .. FULL: it would have more than 96.");
        LongTrail x = new LongTrail();
        for (int i = 1; i <= 8; i++) {
            Due.is("feed", x.feed(-1, 0, 1), 12 * i);
        }
        Due.row("108 are too many", Due.ints(x.feed(0, 0, 0), x.count(15)), Due.FULL, 96);
        Due.row("97 are too many", Due.ints(x.trim(85), x.feed(0, 0, 0), x.count(15)), 85, Due.FULL, 85);
        Due.row("96 are not", Due.ints(x.trim(84), x.feed(0, 0, 0), x.count(15)), 84, 96, 96);
        LongTrail y = new LongTrail();
        Due.is("a text of 96 bytes", Due.text(y, 0, 0, "draw " + "1+".repeat(45) + "1"), 0);
        Due.is("all of it", y.of(0, 3), 46);
    }

    private static void tapeIsUsedUp() {
        Due.sentence("an act that reads it uses it up, whatever it answers");
        LongTrail x = new LongTrail();
        Due.row("taken", Due.ints(Due.text(x, 0, 0, "camp 1"), x.count(15), x.text(0, 0)), 0, 0, -100);
        Due.row("FAULT", Due.ints(Due.text(x, 0, 0, "camp ?"), x.count(15), x.text(0, 0)), -105, 0, -100);
        Due.row("BAD land", Due.ints(Due.text(x, 4, 0, "camp 1"), x.count(15), x.text(0, 0)), Due.BAD, 0, -100);
        Due.row("BAD day", Due.ints(Due.text(x, 0, 1000, "camp 1"), x.count(15), x.text(0, 0)), Due.BAD, 0, -100);
        for (int i = 1; i < 12; i++) {
            Due.text(x, 0, 0, "camp 1");
        }
        Due.row("FULL", Due.ints(Due.text(x, 0, 0, "camp 1"), x.count(15), x.text(0, 0)), Due.FULL, 0, -100);
    }

    private static void tapeIsKept() {
        Due.sentence("an act that reads it uses it up (and no other one)");
        LongTrail x = new LongTrail();
        x.walker(0, 1, 0, 1, 1);
        Due.tape(x, "camp 1");
        x.run(1);
        x.keep();
        x.run(1);
        x.back();
        x.check(1);
        x.crowd(1);
        x.trim(7);
        x.trim(-1);
        Due.row("as it was", Due.ints(x.count(15), x.text(0, 0), x.of(0, 3)), 6, 0, 1);
    }

    private static void keys() {
        Due.sentence("KEY: camp | skip | quit | draw");
        for (int key = 0; key < 4; key++) {
            LongTrail x = new LongTrail();
            Due.row("each", Due.ints(Due.text(x, 0, 0, KEYS[key] + " 1"), x.of(0, 0)), 0, key);
            for (int i = 0; i < 4; i++) {
                char at = KEYS[key].charAt(i);
                for (int d = -1; d <= 1; d += 2) {
                    fault(KEYS[key].substring(0, i) + (char) (at + d) + KEYS[key].substring(i + 1) + " 1", 0);
                }
                fault(KEYS[key].substring(0, i) + " 1", i == 0 ? 1 : 0);
            }
            fault(KEYS[key] + KEYS[key].charAt(3) + " 1", 0);
            fault(KEYS[key] + "a 1", 0);
            fault(KEYS[key] + "z 1", 0);
            fault(KEYS[key] + KEYS[key] + " 1", 0);
            fault(KEYS[key].toUpperCase() + " 1", 0);
            fault(KEYS[key] + " " + KEYS[key] + " 1", 5);
        }
        fault("m camp 1", 0);
        fault("1 camp 1", 0);
        fault("(camp 1)", 0);
    }

    private static void loosestFirst() {
        Due.sentence("E, the loosest first: OR: AND { | AND }; AND: TEST { & TEST }; TEST: SUM [ (< | = | >) SUM ]; SUM: "
                + "TERM { (+ | -) TERM }; TERM: PART { (* | /) PART }; PART: NUMBER .. | NAME | ! PART | ( E )");
        worth("1|1&0", "1|(1&0)");
        worth("1|1&0", "1");
        worth("0&1|1", "1");
        worth("0&(1|1)", "0");
        worth("4&2=2", "1");
        worth("0=5&0", "0");
        worth("0=(5&0)", "1");
        worth("1<1+1", "1");
        worth("(1<1)+1", "1");
        worth("3>1+2", "0");
        worth("(3>1)+2", "3");
        worth("2+3*4", "14");
        worth("(2+3)*4", "20");
        worth("20-8/4", "18");
        worth("!0*5", "5");
        worth("!(0*5)", "1");
        worth("!0+5", "6");
        worth("!(0+5)", "0");
        worth("!0=1", "1");
        worth("!(0=1)", "1");
        worth("!1&0", "0");
        worth("!(1&0)", "1");
        worth("!1|1", "1");
        worth("!(1|1)", "0");
    }

    private static void leftFirst() {
        Due.sentence("SUM: TERM { (+ | -) TERM }; TERM: PART { (* | /) PART } (one behind the other)");
        worth("9-5-2", "2");
        worth("9-(5-2)", "6");
        worth("9-5+2", "6");
        worth("64/8/2", "4");
        worth("64/(8/2)", "16");
        worth("7/2*2", "6");
        worth("7*2/4", "3");
        worth("1|0|0|0", "1");
        worth("1&1&1&0", "0");
        worth("2*3*4*5", "120");
        worth("1", "1");
    }

    private static void oneTestAtMost() {
        Due.sentence("TEST: SUM [ (< | = | >) SUM ]");
        for (char first : "<=>".toCharArray()) {
            fault("camp 1" + first + "2", TAKEN);
            fault("camp " + first + "2", 5);
            fault("camp 1" + first, 7);
            for (char next : "<=>".toCharArray()) {
                fault("camp 1" + first + "2" + next + "3", 8);
                fault("camp 1" + first + next + "3", 7);
                fault("camp (1" + first + "2" + next + "3)", 9);
                fault("camp (1" + first + "2)" + next + "3", TAKEN);
                fault("camp 1" + first + "(2" + next + "3)", TAKEN);
                fault("camp 1" + first + "2&3" + next + "4|5" + first + "6", TAKEN);
            }
        }
    }

    private static void digits() {
        Due.sentence("PART: NUMBER (1 to 4 digits)");
        worth("9999", "9998+1");
        worth("0009", "9");
        worth("0000", "0");
        worth("1234", "1000+200+30+4");
        worth("0", "1-1");
        fault("camp 9999", TAKEN);
        fault("camp 10000", 5);
        fault("camp 00000", 5);
        fault("camp 99999999999999999999", 5);
    }

    private static void names() {
        Due.sentence("NAMES, each one letter: of camp m .., n ..; of skip l .., f ..; of quit h .., t .., s .., w ..; of draw "
                + "d .., p ..");
        for (int key = 0; key < 4; key++) {
            for (char name = 'a'; name <= 'z'; name++) {
                boolean taken = NAMES[key].indexOf(name) >= 0;
                fault(KEYS[key] + " " + name, taken ? TAKEN : 5);
                fault(KEYS[key] + " 1+" + name, taken ? TAKEN : 7);
                fault(KEYS[key] + " " + name + name, 5);
                fault(KEYS[key] + " " + Character.toUpperCase(name), 5);
            }
        }
    }

    private static void anyByteBehindANumber() {
        Due.sentence("any other byte is a sign by itself");
        for (int b = 0; b < 256; b++) {
            char c = (char) b;
            int place = isDigit(c) || JOINING.indexOf(c) >= 0 ? TAKEN : c == ' ' ? 7 : 6;
            fault("camp 1" + c + "1", place);
        }
    }

    private static void anyByteAheadOfANumber() {
        Due.sentence("FAULT: the first byte of the first word or sign with which no TEXT goes on");
        for (int b = 0; b < 256; b++) {
            char c = (char) b;
            int place = isDigit(c) || c == ' ' || c == '!' ? TAKEN : c == 'm' || c == 'n' ? 6 : c == '(' ? 7 : 5;
            fault("camp " + c + "1", place);
        }
    }

    private static void anyByteAheadOfTheKey() {
        Due.sentence("Between words and signs, and at the ends, there may be blanks (byte 32) .. (ahead of the KEY)");
        for (int b = 0; b < 256; b++) {
            fault((char) b + "camp 1", b == 32 ? TAKEN : 0);
        }
    }

    private static void anyByteAtTheEnd() {
        Due.sentence("Between words and signs, and at the ends, there may be blanks (byte 32) .. (behind E)");
        for (int b = 0; b < 256; b++) {
            char c = (char) b;
            int place = isDigit(c) || c == ' ' ? TAKEN : JOINING.indexOf(c) >= 0 ? 7 : 6;
            fault("camp 1" + c, place);
        }
    }

    private static boolean isDigit(char c) {
        return c >= '0' && c <= '9';
    }

    private static void blanks() {
        Due.sentence("Between words and signs, and at the ends, there may be blanks (byte 32)");
        fault("camp(1+m)*!n", TAKEN);
        fault("  camp  (  1  +  m  )  *  !  n  ", TAKEN);
        fault("camp" + " ".repeat(91) + "1", TAKEN);
        fault(" ".repeat(90) + "camp 1", TAKEN);
        fault("camp 1" + " ".repeat(90), TAKEN);
        fault("camp 1\t", 6);
        fault("camp\t1", 4);
        fault("camp 1\n", 6);
        fault("camp 1" + (char) 160, 6);
        fault("camp 1" + (char) 0, 6);
        fault("ca mp 1", 0);
        fault("camp 1 0", 7);
    }

    private static void textBehindText() {
        Due.sentence("an act that reads it uses it up (nothing of it is left for the next one)");
        LongTrail x = new LongTrail();
        x.walker(0, 5, 0, 20, 99);
        for (int i = 0; i < 12; i++) {
            Due.is("a TEXT of 96 bytes", Due.text(x, 0, 0, "camp 1-1" + "-0+0".repeat(21) + "+m/5"), i);
            Due.is("NUMBERS and NAMES of it", x.of(i, 3), 46);
        }
        x.run(1);
        Due.is("it is 1", x.is(0, 12), 0);
        LongTrail y = new LongTrail();
        y.walker(0, 5, 0, 20, 99);
        for (int i = 0; i < 12; i++) {
            Due.is("a TEXT of 96 bytes", Due.text(y, 0, 0, "camp 1-1" + "-0+0".repeat(21) + "+m-5"), i);
        }
        y.run(1);
        Due.is("it is 0", y.is(0, 12), 1);
    }

    private static void textBehindFault() {
        Due.sentence("an act that reads it uses it up, whatever it answers (nothing of a FAULT is left for the next one)");
        String[] faults = {"x", "1", "?", "camp x", "camp 12345", "camp 1 1", "camp 1m", "camp (1", "camp ((((((((((", "camp !"};
        for (String fault : faults) {
            LongTrail x = new LongTrail();
            Due.is("<" + fault + ">", Due.text(x, 0, 0, fault) <= -100 ? 1 : 0, 1);
            Due.row("the next one behind <" + fault + ">", Due.ints(Due.text(x, 0, 0, "quit h"), x.of(0, 0), x.of(0, 3)), 0, 2, 1);
        }
    }

    private static void wordsNeedBlanks() {
        Due.sentence("a word right behind another one needs one (.. FAULT: .. a word that needs a blank ahead of it)");
        fault("camp1", 4);
        fault("camp 1", TAKEN);
        fault("camp 1m", 6);
        fault("camp m1", 6);
        fault("camp m+1n", 8);
        fault("camp 12345m", 5);
        fault("camp (1)m", 8);
        fault("camp!m", TAKEN);
        fault("camp 9 m", 7);
        fault("quit1h", 4);
    }

    private static void noTextGoesOn() {
        Due.sentence("FAULT: the first byte of the first word or sign with which no TEXT goes on");
        fault("camp 1+*2", 7);
        fault("camp 1 + * 2", 9);
        fault("camp ()", 6);
        fault("camp 1)", 6);
        fault("camp (1))", 8);
        fault("camp (1)(1)", 8);
        fault("camp (1", 7);
        fault("camp (1+2", 9);
        fault("camp (1 2)", 8);
        fault("camp 1!", 6);
        fault("camp 1!1", 6);
        fault("camp !)", 6);
        fault("camp -1", 5);
        fault("camp 1--1", 7);
        fault("camp 1&&1", 7);
        fault("camp 1||1", 7);
        fault("camp 1==1", 7);
        fault("camp 1<>1", 7);
        fault("camp !=1", 6);
        fault("camp 1?1:?", 6);
        fault("camp", 4);
        fault("+", 0);
    }

    private static void numbersTooLong() {
        Due.sentence("FAULT: .. a NUMBER of more than 4 digits");
        fault("camp 12345", 5);
        fault("camp   12345", 7);
        fault("camp 1+12345", 7);
        fault("camp 1234+5678*9012-3456", TAKEN);
        fault("camp (12345", 6);
        fault("camp m12345", 6);
        fault("camp 1 12345", 7);
        fault("camp " + "0".repeat(91), 5);
    }

    private static void ninthBracket() {
        Due.sentence("FAULT: .. the ninth ( that would be open within others (the outermost counted)");
        fault("camp " + "(".repeat(8) + "1" + ")".repeat(8), TAKEN);
        fault("camp " + "(".repeat(9) + "1" + ")".repeat(9), 13);
        fault("camp " + "(".repeat(12) + "1" + ")".repeat(12), 13);
        fault("camp " + "( ".repeat(9) + "1", 21);
        fault("camp " + "(".repeat(8) + "1" + ")".repeat(8) + "+" + "(".repeat(8) + "1" + ")".repeat(8), TAKEN);
        fault("camp " + "(".repeat(8) + "1" + ")".repeat(8) + "+" + "(".repeat(9) + "1" + ")".repeat(9), 31);
        fault("camp " + "(".repeat(8) + "1)+(1)" + ")".repeat(7), TAKEN);
        fault("camp " + "(".repeat(8) + "1)+((1))" + ")".repeat(7), 17);
        fault("camp " + "(1+".repeat(8) + "1" + ")".repeat(8), TAKEN);
        fault("camp " + "(1+".repeat(9) + "1" + ")".repeat(9), 29);
        fault("camp " + "(".repeat(8), 13);
        fault("camp " + "(".repeat(8) + ")", 13);
        fault("camp " + "(1)+".repeat(20) + "1", TAKEN);
    }

    private static void ninthNot() {
        Due.sentence("FAULT: .. the ninth ! likewise (open till its PART ends)");
        fault("camp " + "!".repeat(8) + "1", TAKEN);
        fault("camp " + "!".repeat(9) + "1", 13);
        fault("camp " + "! ".repeat(9) + "1", 21);
        fault("camp " + "!".repeat(8), 13);
        fault("camp " + "!".repeat(8) + "1+" + "!".repeat(8) + "1", TAKEN);
        fault("camp " + "!".repeat(8) + "1*" + "!".repeat(9) + "1", 23);
        fault("camp " + "!1+".repeat(20) + "1", TAKEN);
        fault("camp !!!!(!!!!1)", TAKEN);
        fault("camp !!!!(!!!!!1)", 14);
        fault("camp !!!!(1+!!!!1)", TAKEN);
        fault("camp !!!!(1+!!!!!1)", 16);
        fault("camp !!!!(1)+!!!!!!!!1", TAKEN);
        fault("camp !!!!(1)+!!!!!!!!!1", 21);
        fault("camp !!!!!!!!(1+!1)", 16);
        fault("camp (!!!!!!!!1)+!1", TAKEN);
    }

    private static void eachByItself() {
        Due.sentence("(.. the ninth ( .., the ninth ! likewise .., each by itself)");
        fault("camp " + "!(".repeat(8) + "1" + ")".repeat(8), TAKEN);
        fault("camp " + "(!".repeat(8) + "1" + ")".repeat(8), TAKEN);
        fault("camp " + "!(".repeat(8) + "!1" + ")".repeat(8), 21);
        fault("camp " + "!(".repeat(8) + "(1)" + ")".repeat(8), 21);
        fault("camp " + "(".repeat(8) + "!".repeat(8) + "1" + ")".repeat(8), TAKEN);
        fault("camp " + "!".repeat(8) + "(".repeat(8) + "1" + ")".repeat(8), TAKEN);
        fault("camp " + "(".repeat(8) + "!".repeat(9) + "1" + ")".repeat(8), 21);
        fault("camp " + "!".repeat(8) + "(".repeat(9) + "1" + ")".repeat(9), 21);
    }

    private static void endTooSoon() {
        Due.sentence("FAULT: .. the end (the place behind the last byte), if it comes too soon");
        fault("", 0);
        fault(" ", 1);
        fault(" ".repeat(96), 96);
        fault("camp", 4);
        fault("camp ", 5);
        fault("camp" + " ".repeat(92), 96);
        fault("camp 1+", 7);
        fault("camp 1+  ", 9);
        fault("camp (", 6);
        fault("camp (1", 7);
        fault("camp (1 ", 8);
        fault("camp !", 6);
        fault("camp ((1)", 9);
        fault("camp " + "1+".repeat(45) + "+", 95);
        fault("camp  " + "1+".repeat(45), 96);
    }

    private static void intsWrap() {
        Due.sentence("Ints wrap");
        worth("8192*8192*32<0", "1");
        worth("8192*8192*32-1>0", "1");
        worth("8192*8192*64", "0");
        worth("8192*8192*32+8192*8192*32", "0");
        worth("0-8192*8192*32", "8192*8192*32");
        worth("8192*8192*32/(0-1)", "8192*8192*32");
        worth("9999*9999*9999<0", 9999 * 9999 * 9999 < 0 ? "1" : "0");
    }

    private static void divisionByNothing() {
        Due.sentence("/ is 0 by 0");
        worth("7/0", "0");
        worth("0/0", "0");
        worth("7/0+3", "3");
        worth("7/(m-m)", "0");
        worth("7/(1-2)", "0-7");
        worth("0-7/0", "0");
        worth("8192*8192*32/0", "0");
    }

    private static void answersOfTests() {
        Due.sentence("tests, & | ! give 1 or 0 (what is not 0 is true; ..)");
        String[] left = {"1", "2", "2", "0-1", "0"};
        String[] right = {"2", "2", "1", "0", "0"};
        for (int i = 0; i < left.length; i++) {
            String l = "(" + left[i] + ")";
            String r = "(" + right[i] + ")";
            worth(l + "<" + r, i == 0 || i == 3 ? "1" : "0");
            worth(l + "=" + r, i == 1 || i == 4 ? "1" : "0");
            worth(l + ">" + r, i == 2 ? "1" : "0");
            worth(l + "&" + r, i < 3 ? "1" : "0");
            worth(l + "|" + r, i < 4 ? "1" : "0");
            worth("!" + l, i < 4 ? "0" : "1");
            worth("!!" + l, i < 4 ? "1" : "0");
        }
        worth("0|5", "1");
        worth("5|0", "1");
        worth("0&5", "0");
        worth("5&7", "1");
    }

    private static void cutsTowardsNothing() {
        Due.sentence("/ cuts towards 0");
        worth("7/2", "3");
        worth("(0-7)/2", "0-3");
        worth("7/(0-2)", "0-3");
        worth("(0-7)/(0-2)", "3");
        worth("(0-1)/2", "0");
        worth("1/2", "0");
        worth("8/2", "4");
    }

    private static void textThatCounts() {
        Due.sentence("Of a LAND and a KEY that TEXT counts on a DAY which is in force, with the latest DAY, of several the "
                + "greatest number.");
        LongTrail x = new LongTrail();
        Due.text(x, 1, 2, "skip 1");
        Due.text(x, 1, 1, "skip 1");
        Due.text(x, 1, 1, "skip 1");
        Due.text(x, 1, 0, "skip 1");
        Due.text(x, 2, 0, "skip 1");
        Due.text(x, 1, 0, "quit 0");
        Due.row("DAY 0", Due.ints(x.why(1, 1), x.why(2, 1), x.why(1, 2), x.why(0, 1), x.why(1, 0)), 3, 4, 5, Due.NONE, Due.NONE);
        x.run(1);
        Due.row("DAY 1: of several the greatest number", Due.ints(x.why(1, 1), x.why(2, 1)), 2, 4);
        x.run(1);
        Due.row("DAY 2: the latest DAY", Due.ints(x.why(1, 1), x.why(1, 2)), 0, 5);
        x.run(1);
        Due.is("DAY 3: no later one", x.why(1, 1), 0);
        LongTrail late = new LongTrail();
        Due.text(late, 3, 999, "draw 1");
        Due.runTo(late, 998);
        Due.is("DAY 998", late.why(3, 3), Due.NONE);
        late.run(1);
        Due.is("DAY 999", late.why(3, 3), 0);
    }

    private static void campWithoutText() {
        Due.sentence("Without a TEXT: camp 1");
        LongTrail x = new LongTrail();
        x.walker(0, 5, 0, 9, 99);
        Due.text(x, 0, 2, "camp 0");
        Due.text(x, 1, 0, "camp 0");
        x.run(2);
        Due.row("not FINED", Due.ints(x.is(0, 11), x.is(0, 12)), 2, 0);
        x.run(1);
        Due.row("FINED by the TEXT in force from DAY 2 on", Due.ints(x.is(0, 11), x.is(0, 12)), 3, 1);
    }

    private static void skipWithoutText() {
        Due.sentence("Without a TEXT: .. skip 0");
        LongTrail x = new LongTrail();
        x.fire(0, 30, 9);
        x.walker(0, 5, 0, 9, 99);
        Due.text(x, 0, 2, "skip 1");
        Due.text(x, 1, 0, "skip 1");
        x.run(2);
        Due.row("no skip", Due.ints(x.is(0, 1), x.is(0, 13)), 0, 0);
        x.run(1);
        Due.row("skip by the TEXT in force from DAY 2 on", Due.ints(x.is(0, 1), x.is(0, 13)), 30, 30);
    }

    private static void quitWithoutText() {
        Due.sentence("Without a TEXT: .. quit: h > 2");
        LongTrail x = new LongTrail();
        x.walker(0, 5, 0, 1, 1);
        x.run(3);
        Due.row("HUNGRY 2", Due.ints(x.is(0, 0), x.is(0, 4), x.is(0, 5)), 1, 2, 3);
        x.run(1);
        Due.row("HUNGRY 3", Due.ints(x.is(0, 0), x.is(0, 4)), 2, 3);
        LongTrail y = new LongTrail();
        Due.text(y, 0, 3, "quit 0");
        Due.text(y, 1, 0, "quit 1");
        y.walker(0, 5, 0, 1, 1);
        y.run(4);
        Due.row("with a TEXT in force from DAY 3 on", Due.ints(y.is(0, 0), y.is(0, 4)), 1, 3);
    }

    private static void drawWithoutText() {
        Due.sentence("Without a TEXT: .. draw 0");
        LongTrail x = new LongTrail();
        x.wish(5, 0);
        x.wish(4, 1);
        x.wish(4, 1);
        Due.text(x, 1, 0, "draw 0-d");
        Due.text(x, 0, 1, "draw d=4");
        Due.row("by numbers", Due.ints(x.granted(0), x.granted(1), x.granted(2)), 5, 4, Due.NONE);
        x.run(1);
        Due.row("by the TEXT in force from DAY 1 on", Due.ints(x.granted(0), x.granted(1), x.granted(2)), Due.NONE, 4, 5);
    }

    private static void feedOrder() {
        Due.sentence("Twelve bytes come to THE TAPE, the highest of each number first: how many it has.");
        LongTrail x = new LongTrail();
        Due.is("feed", x.feed('s' << 24 | 'k' << 16 | 'i' << 8 | 'p', ' ' << 24 | 'l' << 16 | '+' << 8 | 'f',
                '*' << 24 | '9' << 16 | '8' << 8 | '7'), 12);
        Due.row("skip l+f*987", Due.ints(x.text(0, 0), x.of(0, 0), x.of(0, 3)), 0, 1, 3);
        Due.is("feed", x.feed(0x80818283, 0x63616d70, 0x7f7f7f7f), 12);
        Due.is("bytes above 127", x.text(0, 0), -100);
    }

    private static void trimBounds() {
        Due.sentence("THE TAPE keeps its first n bytes: n. BAD (n above how many it has, too).");
        for (int size : new int[] {0, 12, 96}) {
            Due.bounds("trim of " + size, 0, size, v -> {
                LongTrail x = new LongTrail();
                Due.tape(x, " ".repeat(size));
                return x.trim(v);
            });
        }
        LongTrail x = new LongTrail();
        Due.tape(x, "camp 1+m*222");
        Due.row("its first ones", Due.ints(x.trim(10), x.count(15), x.trim(11), x.count(15)), 10, 10, Due.BAD, 10);
        Due.row("camp 1+m*2", Due.ints(x.text(0, 0), x.of(0, 3)), 0, 3);
        Due.tape(x, "camp mmmmmmm");
        x.trim(6);
        Due.row("letters behind them are gone", Due.ints(x.text(0, 0), x.of(1, 3)), 1, 1);
        Due.tape(x, "camp 1+m    ");
        x.trim(7);
        Due.is("signs behind them are gone", x.text(0, 0), -107);
        Due.is("a word at the end of 96 bytes", Due.text(x, 0, 0, "camp 1" + " ".repeat(89) + "m"), -195);
        Due.is("a word at the end of 96 bytes", Due.text(x, 0, 0, "camp 1" + " ".repeat(88) + "+m"), 2);
        Due.tape(x, "camp 1+m*222");
        x.trim(6);
        x.feed('2' << 24 | ' ' << 16 | ' ' << 8 | ' ', ' ' << 24 | ' ' << 16 | ' ' << 8 | ' ', 0x20202020);
        Due.row("the next bytes come behind them", Due.ints(x.count(15), x.text(0, 0), x.of(3, 3)), 18, 3, 1);
    }

    private static void textBounds() {
        Due.sentence("THE TAPE is a TEXT of a LAND from a DAY (0 .. 999) on: its number. BAD (asked first; ..)");
        Due.bounds("land", 0, 3, v -> Due.text(new LongTrail(), v, 0, "camp 1"));
        Due.bounds("day", 0, 999, v -> Due.text(new LongTrail(), 0, v, "camp 1"));
        Due.all("BAD stands ahead of a FAULT", Due.BAD, Due.text(new LongTrail(), 4, 0, "?"),
                Due.text(new LongTrail(), -1, 0, ""), Due.text(new LongTrail(), 0, 1000, "camp"),
                Due.text(new LongTrail(), 0, -1, "camp"));
        LongTrail x = new LongTrail();
        x.run(5);
        Due.is("a DAY that is gone", Due.text(x, 0, 0, "camp 1"), 0);
        Due.row("it counts", Due.ints(x.why(0, 0), x.of(0, 2)), 0, 0);
    }

    private static void faultPlaces() {
        Due.sentence("BAD ..; -100 less the place of its FAULT; FULL.");
        LongTrail x = new LongTrail();
        Due.is("the first byte", Due.text(x, 0, 0, "?"), -100);
        Due.is("the last byte of 96", Due.text(x, 0, 0, "camp 1" + " ".repeat(89) + "?"), -195);
        Due.is("behind 96 bytes", Due.text(x, 0, 0, "camp 1" + " ".repeat(89) + "+"), -196);
        for (int i = 0; i < 12; i++) {
            Due.text(x, 0, 0, "camp 1");
        }
        Due.row("a FAULT stands ahead of FULL", Due.ints(Due.text(x, 0, 0, "?"), Due.text(x, 0, 0, "camp 1+"),
                Due.text(x, 0, 0, "camp 1"), Due.text(x, 4, 0, "camp 1"), x.count(10)), -100, -107, Due.FULL, Due.BAD, 12);
    }

    private static void ofBounds() {
        Due.sentence("Of a TEXT: what 0 KEY (0 .. 3, as told), 1 LAND, 2 the DAY, 3 .. BAD.");
        LongTrail x = new LongTrail();
        for (int i = 0; i < 4; i++) {
            Due.text(x, 3 - i, 333 * i, KEYS[i] + " 1");
            Due.row("TEXT " + i, Due.ints(x.of(i, 0), x.of(i, 1), x.of(i, 2), x.of(i, 3)), i, 3 - i, 333 * i, 1);
        }
        Due.bounds("what", 0, 3, v -> x.of(0, v));
        Due.bounds("text", 0, 3, v -> x.of(v, 0));
    }

    private static void operandsCounted() {
        Due.sentence("3 how many NUMBERS and NAMES it has");
        LongTrail x = new LongTrail();
        String[] texts = {"camp 1", "camp m", "camp !!(m)", "camp m+1234", "camp m*m-(m)/m", "quit h+t+s+w+1+2+3+4"};
        int[] due = {1, 1, 1, 2, 4, 8};
        for (int i = 0; i < texts.length; i++) {
            Due.row(texts[i], Due.ints(Due.text(x, 0, 0, texts[i]), x.of(i, 3)), i, due[i]);
        }
    }

    private static void whyBounds() {
        Due.sentence("WHY: the TEXT that counts for a LAND and a KEY now. BAD; NONE.");
        LongTrail x = new LongTrail();
        Due.bounds("land", 0, 3, v -> x.why(v, 0));
        Due.bounds("key", 0, 3, v -> x.why(0, v));
        for (int land = 0; land < 4; land++) {
            for (int key = 0; key < 4; key++) {
                LongTrail y = new LongTrail();
                Due.is("NONE", y.why(land, key), Due.NONE);
                Due.text(y, land, 0, KEYS[key] + " 0");
                int counting = 0;
                for (int i = 0; i < 16; i++) {
                    counting += y.why(i / 4, i % 4) == Due.NONE ? 0 : 1;
                }
                Due.row("it alone counts", Due.ints(y.why(land, key), counting), 0, 1);
            }
        }
    }
}
