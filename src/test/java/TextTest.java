/** Promises 12 to 16: the tape and the texts of the lands. */
public final class TextTest {
    public static void main(String[] args) {
        feedAndTrim();
        refusals();
        faults();
        depths();
        of();
        why();
        worths();
        Due.end("TextTest");
    }

    private static void feedAndTrim() {
        LongTrail x = new LongTrail();
        for (int i = 1; i <= 8; i++) {
            Due.is("feed", x.feed(0x20202020, 0x20202020, 0x20202020), 12 * i);
        }
        Due.is("feed: FULL", x.feed(0, 0, 0), Due.FULL);
        Due.all("trim: BAD", Due.BAD, x.trim(97), x.trim(-1));
        Due.is("trim", x.trim(85), 85);
        Due.is("feed: 97 would be too many", x.feed(0, 0, 0), Due.FULL);
        Due.is("trim", x.trim(84), 84);
        Due.is("feed: 96", x.feed(0x63616d70, 0x20312020, 0x20202020), 96);
        Due.is("bytes", x.count(15), 96);
        Due.is("text with 84 blanks ahead", x.text(0, 0), 0);
        Due.is("used up", x.count(15), 0);
        Due.is("trim: BAD", x.trim(1), Due.BAD);
        Due.is("trim", x.trim(0), 0);
        Due.is("bytes, the highest first", x.feed(0x64726177, 0x2064, 0), 12);
        Due.is("FAULT at a byte 0", x.text(0, 0), -104);
    }

    private static void refusals() {
        LongTrail x = new LongTrail();
        Due.is("text: land", Due.text(x, -1, 0, "camp 1"), Due.BAD);
        Due.is("text: used up", x.count(15), 0);
        Due.is("text: land", Due.text(x, 4, 0, "camp 1"), Due.BAD);
        Due.is("text: day", Due.text(x, 0, -1, "camp 1"), Due.BAD);
        Due.is("text: BAD stands ahead of FAULT", Due.text(x, 0, 1000, "camp"), Due.BAD);
        Due.is("text: none came", x.count(10), 0);
        for (int i = 0; i < 12; i++) {
            Due.is("text", Due.text(x, i % 4, 999, "camp 1"), i);
        }
        Due.is("text: FULL", Due.text(x, 0, 0, "camp 1"), Due.FULL);
        Due.is("text: used up", x.count(15), 0);
        Due.is("text: FAULT stands ahead of FULL", Due.text(x, 0, 0, "camp"), -104);
        Due.is("text: how many", x.count(10), 12);
    }

    private static void faults() {
        fault("", 0);
        fault("   ", 3);
        fault("  x", 2);
        fault("12", 0);
        fault("cam", 0);
        fault("camps", 0);
        fault("campz", 0);
        fault("campa", 0);
        fault("damp 1", 0);
        fault("came 1", 0);
        fault("camp{", 4);
        fault("camp`", 4);
        fault("camp 1:", 6);
        fault("camp /1", 5);
        fault("CAMP 1", 0);
        fault("camp", 4);
        fault("camp  ", 6);
        fault("camp1", 4);
        fault("campm", 0);
        fault("camp(1)", -1);
        fault("camp!1", -1);
        fault("   camp   1   ", -1);
        fault("camp 9999", -1);
        fault("camp 10000", 5);
        fault("camp 00001", 5);
        fault("camp 0001", -1);
        fault("camp m", -1);
        fault("camp n", -1);
        fault("camp l", 5);
        fault("camp mm", 5);
        fault("camp m m", 7);
        fault("camp m1", 6);
        fault("camp 1m", 6);
        fault("camp 1 2", 7);
        fault("camp 1+", 7);
        fault("camp 1+ ", 8);
        fault("camp +1", 5);
        fault("camp -1", 5);
        fault("camp 1--1", 7);
        fault("camp 1%2", 6);
        fault("camp 1<2<3", 8);
        fault("camp 1<2=3", 8);
        fault("camp 1<2&3>4|5=6", -1);
        fault("camp (1<2)<3", -1);
        fault("camp 1<=2", 7);
        fault("camp ()", 6);
        fault("camp (1", 7);
        fault("camp (1 2", 8);
        fault("camp 1)", 6);
        fault("camp (1))", 8);
        fault("camp (1)(2)", 8);
        fault("camp 1!", 6);
        fault("camp !", 6);
        fault("camp !+", 6);
        fault("camp 1\t", 6);
        fault("camp \u00e9", 5);
        fault("skip l+f", -1);
        fault("skip m", 5);
        fault("quit h+t+s+w", -1);
        fault("quit d", 5);
        fault("draw d*p", -1);
        fault("draw w", 5);
        fault("camp skip", 5);
        fault("draw d camp 1", 7);
    }

    private static void depths() {
        fault("camp ((((((((1))))))))", -1);
        fault("camp (((((((((1)))))))))", 13);
        fault("camp !!!!!!!!1", -1);
        fault("camp !!!!!!!!!1", 13);
        fault("camp !(!(!(!(!(!(!(!(1))))))))", -1);
        fault("camp !(!(!(!(!(!(!(!(!1))))))))", 21);
        fault("camp !(!(!(!(!(!(!(!((1)))))))))", 21);
        fault("camp !!!!!!!!1+!!!!!!!!m*((((((((n))))))))-((((((((2))))))))", -1);
        fault("camp !!!!(1+!!!!m&!!!!!n)", 22);
        fault("camp !!!!(1)+!!!!m&!!!!!!!!n", -1);
    }

    /** The place of the fault in a text, -1 if it has none. */
    private static void fault(String signs, int place) {
        LongTrail x = new LongTrail();
        Due.is("FAULT of <" + signs + ">", Due.text(x, 0, 0, signs), place < 0 ? 0 : -100 - place);
        Due.is("texts behind <" + signs + ">", x.count(10), place < 0 ? 1 : 0);
        Due.is("used up by <" + signs + ">", x.count(15), 0);
    }

    private static void of() {
        LongTrail x = new LongTrail();
        Due.text(x, 3, 999, "draw d*p+10-(d/!2)");
        Due.text(x, 1, 0, "camp 1");
        Due.text(x, 2, 7, "skip f");
        Due.text(x, 0, 8, "quit h&h|12");
        Due.row("of 0", Due.ints(x.of(0, 0), x.of(0, 1), x.of(0, 2), x.of(0, 3)), 3, 3, 999, 5);
        Due.row("of 1", Due.ints(x.of(1, 0), x.of(1, 1), x.of(1, 2), x.of(1, 3)), 0, 1, 0, 1);
        Due.row("of 2", Due.ints(x.of(2, 0), x.of(2, 1), x.of(2, 2), x.of(2, 3)), 1, 2, 7, 1);
        Due.row("of 3", Due.ints(x.of(3, 0), x.of(3, 1), x.of(3, 2), x.of(3, 3)), 2, 0, 8, 3);
        Due.all("of: BAD", Due.BAD, x.of(4, 0), x.of(-1, 0), x.of(0, -1), x.of(0, 4));
    }

    private static void why() {
        LongTrail x = new LongTrail();
        Due.text(x, 1, 2, "camp 1");
        Due.text(x, 1, 1, "camp 1");
        Due.text(x, 1, 1, "camp 1");
        Due.text(x, 1, 0, "skip 1");
        Due.is("why: not in force", x.why(1, 0), Due.NONE);
        Due.is("why: another KEY", x.why(1, 1), 3);
        Due.is("why: another LAND", x.why(0, 1), Due.NONE);
        x.run(1);
        Due.is("why: the greatest number of one DAY", x.why(1, 0), 2);
        x.run(1);
        Due.is("why: the latest DAY", x.why(1, 0), 0);
        Due.text(x, 1, 0, "camp 1");
        Due.is("why: the latest DAY", x.why(1, 0), 0);
        Due.all("why: BAD", Due.BAD, x.why(-1, 0), x.why(4, 0), x.why(0, -1), x.why(0, 4));
    }

    private static void worths() {
        worth("1+2*3", 7);
        worth("(1+2)*3", 9);
        worth("10-3-2", 5);
        worth("100/7/2", 7);
        worth("7/2*2", 6);
        worth("(0-7)/2", -3);
        worth("5/0", 0);
        worth("5/(d-d)", 0);
        worth("1<2", 1);
        worth("2<1", 0);
        worth("2=2", 1);
        worth("3>2", 1);
        worth("2>2", 0);
        worth("1+1=2", 1);
        worth("5&3", 1);
        worth("5&0", 0);
        worth("0|7", 1);
        worth("0|0", 0);
        worth("1|0&0", 1);
        worth("(1|0)&0", 0);
        worth("0&1|1", 1);
        worth("1&2>1", 1);
        worth("!5", 0);
        worth("!0", 1);
        worth("!!7", 1);
        worth("!0+5", 6);
        worth("!(1-1)*3", 3);
        worth("2-!0*2", 0);
        worth("0007", 7);
        worth("d", 100);
        worth("p", 2);
        worth("d*p-d/p", 150);
        worth("9999*9999*9999", 9999 * 9999 * 9999);
        worth("(0-8192)*8192*32/(0-1)", (-8192 * 8192 * 32) / -1);
    }

    /** What a text of draw is worth for DAY 100 with 2 wishes, found out by rivals whose worth is plain. */
    private static void worth(String e, int want) {
        Due.is(e + " is " + want, comparedWith(e, want), 0);
        if (want > Integer.MIN_VALUE) {
            Due.is(e + " is above " + (want - 1), comparedWith(e, want - 1), 1);
        }
        Due.is(e + " is below " + (want + 1), comparedWith(e, want + 1), -1);
    }

    /** By one seat on one day: 1 if the worth for DAY 100 is above v, 0 if it is v, -1 if it is below. */
    private static int comparedWith(String e, int v) {
        boolean above = drawnFirst("(d=100)*(" + e + ")+(d=99)*" + plain(v), true);
        boolean notBelow = drawnFirst("(d=100)*(" + e + ")+(d=99)*" + plain(v), false);
        return above ? 1 : notBelow ? 0 : -1;
    }

    private static String plain(int v) {
        if (v > -10000 && v < 0) {
            return "(0-" + -v + ")";
        }
        if (v >= 0 && v < 10000) {
            return "" + v;
        }
        long high = Math.floorDiv(v, 9000L * 1000);
        long rest = v - high * 9000L * 1000;
        String left = high < 0 ? "(0-" + -high + ")" : "" + high;
        return "(" + left + "*9000*1000+" + rest / 9000 + "*9000+" + rest % 9000 + ")";
    }

    /** Whether wishes of DAY 100 come ahead of a wish of DAY 99, which has the least number or the greatest. */
    private static boolean drawnFirst(String e, boolean rivalFirst) {
        LongTrail x = new LongTrail();
        x.quota(99 % 7, 0);
        x.quota(100 % 7, 1);
        x.quota(101 % 7, 0);
        if (rivalFirst) {
            x.wish(99, 1);
        }
        x.wish(100, 0);
        x.wish(100, 0);
        if (!rivalFirst) {
            x.wish(99, 1);
        }
        Due.is("draw " + e, Due.text(x, 0, 0, "draw " + e), 0);
        return x.granted(rivalFirst ? 1 : 0) == 100;
    }
}
