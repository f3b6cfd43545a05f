/**
 * The boundary cases of THE IMAGE in "5 SHEETS", of promises 42 to 46, and of how long an object is used. Each method
 * tests one sentence of the document, which it names.
 */
public final class ImageEdgesTest {
    public static void main(String[] args) {
        tellAtMost();
        tellAnyNumber();
        checkBounds();
        checkWithoutImage();
        noneWaitThen();
        checkOfDays();
        checkMissing();
        checkTooMany();
        checkFirstWrong();
        checkBeyond999();
        checkOfAll();
        checkOfTen();
        checkFromTheImage();
        keepAnswer();
        keepAgain();
        backWithoutImage();
        backAgainAndAgain();
        imageKeepsAllBut();
        imageOfTables();
        imageOfTheEmpty();
        walkerAsNew();
        countBounds();
        countStates();
        callsAtMost();
        Due.end("ImageEdgesTest");
    }

    private static void tellAtMost() {
        Due.sentence("One more number waits: how many. FULL: 60 wait.");
        LongTrail x = new LongTrail();
        Due.is("none", x.count(14), 0);
        for (int i = 1; i <= 60; i++) {
            Due.row("tell", Due.ints(x.tell(i), x.count(14)), i, i);
        }
        Due.row("the 61st", Due.ints(x.tell(1), x.count(14)), Due.FULL, 60);
        x.check(1);
        Due.row("none wait then", Due.ints(x.count(14), x.tell(1)), 0, 1);
    }

    private static void tellAnyNumber() {
        Due.sentence("One more number waits (any)");
        LongTrail x = new LongTrail();
        Due.row("tell", Due.ints(x.tell(Integer.MIN_VALUE), x.tell(Integer.MAX_VALUE), x.tell(-1), x.tell(Due.BAD)), 1, 2, 3, 4);
    }

    private static void checkBounds() {
        Due.sentence("THE DAYS TOLD of n DAYS (1 .. 30; ..) .. BAD");
        Due.bounds("n", 1, 30, v -> {
            LongTrail x = new LongTrail();
            x.keep();
            return x.check(v);
        });
        LongTrail x = new LongTrail();
        x.keep();
        for (int i = 0; i < 60; i++) {
            x.tell(0);
        }
        Due.is("30 DAYS of nobody", x.check(30), 0);
    }

    private static void checkWithoutImage() {
        Due.sentence("(check) BAD; NO: there is no IMAGE.");
        LongTrail x = new LongTrail();
        Due.row("NO", Due.ints(x.check(1), x.check(30)), Due.NO, Due.NO);
        Due.all("BAD stands first", Due.BAD, x.check(0), x.check(31), x.check(-1));
        x.keep();
        Due.is("there is one", x.check(1), 1);
    }

    private static void noneWaitThen() {
        Due.sentence("The numbers that wait (none do then, whatever is answered)");
        LongTrail x = new LongTrail();
        x.tell(0);
        Due.row("BAD", Due.ints(x.check(0), x.count(14)), Due.BAD, 0);
        x.tell(0);
        Due.row("BAD", Due.ints(x.check(31), x.count(14)), Due.BAD, 0);
        x.tell(0);
        Due.row("NO", Due.ints(x.check(1), x.count(14)), Due.NO, 0);
        x.keep();
        x.tell(0);
        Due.row("missing", Due.ints(x.check(1), x.count(14)), 2, 0);
        x.tell(5);
        x.tell(0);
        Due.row("wrong", Due.ints(x.check(1), x.count(14)), 1, 0);
        x.tell(0);
        x.tell(0);
        Due.row("right", Due.ints(x.check(1), x.count(14)), 0, 0);
        for (int i = 0; i < 60; i++) {
            x.tell(0);
        }
        Due.row("too many", Due.ints(x.check(1), x.count(14)), 3, 0);
        Due.row("none", Due.ints(x.check(1), x.count(14)), 1, 0);
    }

    /** LENGTH 30; DAY 0 is kept; what is told of DAYS 0 to 4 stands in DUE. */
    private static LongTrail twoWalkers() {
        LongTrail x = new LongTrail();
        x.length(30);
        x.walker(0, 10, 0, 2, 99);
        x.walker(1, 20, 0, 3, 99);
        x.keep();
        return x;
    }

    private static final int[] DUE = {10, 1, 40, 2, 55, 1, 60, 1, 60, 1};

    private static int checked(LongTrail x, int n, int many) {
        for (int i = 0; i < many; i++) {
            x.tell(DUE[i]);
        }
        return x.check(n);
    }

    private static void checkOfDays() {
        Due.sentence("are THE DAYS TOLD of n DAYS .., two by two: 0");
        for (int n = 1; n <= 5; n++) {
            Due.is(n + " DAYS", checked(twoWalkers(), n, 2 * n), 0);
        }
    }

    private static void checkMissing() {
        Due.sentence("else 1 and how many stand right ahead of the first that .. is missing");
        for (int n = 1; n <= 5; n++) {
            for (int many = 0; many < 2 * n; many++) {
                Due.is(n + " DAYS, " + many + " numbers", checked(twoWalkers(), n, many), 1 + many);
            }
        }
        LongTrail x = new LongTrail();
        x.keep();
        Due.row("none at all", Due.ints(x.check(1), x.check(30)), 1, 1);
        for (int i = 0; i < 59; i++) {
            x.tell(0);
        }
        Due.is("59 of 60", x.check(30), 60);
    }

    private static void checkTooMany() {
        Due.sentence("else 1 and how many stand right ahead of the first that is .. one too many");
        for (int n = 1; n < 5; n++) {
            for (int many = 2 * n + 1; many <= 10; many++) {
                Due.is(n + " DAYS, " + many + " numbers", checked(twoWalkers(), n, many), 1 + 2 * n);
            }
        }
        LongTrail x = new LongTrail();
        x.keep();
        for (int i = 0; i < 60; i++) {
            x.tell(0);
        }
        Due.is("60 of 58", x.check(29), 59);
    }

    private static void checkFirstWrong() {
        Due.sentence("else 1 and how many stand right ahead of the first that is not");
        for (int wrong = 0; wrong < 10; wrong++) {
            for (int d = -1; d <= 1; d += 2) {
                LongTrail x = twoWalkers();
                for (int i = 0; i < 10; i++) {
                    x.tell(i == wrong || i == 9 ? DUE[i] + d : DUE[i]);
                }
                Due.is("wrong at " + wrong, x.check(5), 1 + wrong);
            }
        }
        LongTrail x = twoWalkers();
        x.tell(DUE[0] + 1);
        Due.is("wrong ahead of missing", x.check(5), 1);
        x = twoWalkers();
        x.tell(DUE[0]);
        x.tell(DUE[1] - 1);
        x.tell(0);
        Due.is("wrong ahead of too many", x.check(1), 2);
    }

    private static void checkBeyond999() {
        Due.sentence("n DAYS (1 .. 30; also beyond DAY 999)");
        LongTrail x = new LongTrail();
        Due.runTo(x, 999);
        x.walker(999, 1, 0, 20, 99);
        x.fire(1, 9, 999);
        x.keep();
        for (int day = 1; day <= 20; day++) {
            x.tell(day);
            x.tell(20 - day);
        }
        Due.row("DAYS 999 to 1018", Due.ints(x.check(20), x.count(16), x.run(1)), 0, 999, Due.FULL);
        LongTrail y = new LongTrail();
        Due.runTo(y, 998);
        y.place(3, 0, 1);
        y.shut(0, 1 << 1000 % 7);
        y.walker(998, 1, 0, 20, 99);
        y.box(0, 0, 1, 2);
        y.keep();
        int[] miles = {0, 0, 0, 1};
        for (int i = 0; i < 4; i++) {
            y.tell(miles[i]);
            y.tell(i < 3 ? 20 : 19);
        }
        Due.is("the POST is SHUT on DAY 1000", y.check(4), 0);
    }

    private static void checkOfAll() {
        Due.sentence("THE DAYS TOLD: MILES of all WALKERS together, and FOOD of all, behind each of n DAYS");
        LongTrail x = new LongTrail();
        x.length(20);
        Due.text(x, 0, 0, "quit s=9");
        x.walker(0, 20, 0, 5, 99);
        x.walker(0, 9, 0, 7, 99);
        x.walker(1, 5, 0, 9, 99);
        x.run(1);
        Due.row("DONE, QUIT, WAITS", Due.ints(x.is(0, 0), x.is(1, 0), x.is(2, 0)), 3, 2, 0);
        x.keep();
        x.tell(20 + 9 + 5);
        x.tell(4 + 6 + 8);
        x.tell(20 + 9 + 10);
        x.tell(4 + 6 + 7);
        Due.is("all count", x.check(2), 0);
    }

    private static void checkOfTen() {
        Due.sentence("THE DAYS TOLD: MILES of all WALKERS together, and FOOD of all (ten of them, by the TEXTS)");
        LongTrail x = new LongTrail();
        Due.text(x, 0, 1, "quit s=2");
        for (int i = 0; i < 10; i++) {
            x.walker(0, i + 1, 0, 20, 99);
        }
        x.keep();
        x.tell(55);
        x.tell(190);
        x.tell(110);
        x.tell(180);
        x.tell(165 - 1);
        x.tell(171);
        Due.is("10, 10, then 9", x.check(3), 0);
    }

    private static void checkFromTheImage() {
        Due.sentence("behind each of n DAYS from THE IMAGE on (nobody doing anything)");
        LongTrail x = twoWalkers();
        x.run(2);
        x.finds(0, 1);
        x.zero(1, 9);
        x.walker(2, 1, 0, 1, 1);
        Due.row("from THE IMAGE on, not from now on", Due.ints(checked(x, 5, 10), x.count(16), x.is(0, 1), x.is(1, 9), x.count(3)),
                0, 2, 20, 9, 3);
        Due.row("THE IMAGE is as it was", Due.ints(x.back(), x.count(3), x.is(0, 1), x.is(0, 0)), 0, 2, 0, 0);
    }

    private static void keepAnswer() {
        Due.sentence("AN IMAGE is kept: the DAY.");
        LongTrail x = new LongTrail();
        Due.is("DAY 0", x.keep(), 0);
        Due.runTo(x, 999);
        Due.row("DAY 999", Due.ints(x.keep(), x.back(), x.count(16)), 999, 999, 999);
    }

    private static void keepAgain() {
        Due.sentence("AN IMAGE is kept (in place of the one ahead of it)");
        LongTrail x = new LongTrail();
        x.keep();
        x.run(1);
        x.place(0, 5, 0);
        Due.is("another one", x.keep(), 1);
        x.place(0, 6, 0);
        x.run(1);
        Due.row("the last one", Due.ints(x.back(), x.count(0), x.keep(), x.back()), 1, 1, 1, 1);
    }

    private static void backWithoutImage() {
        Due.sentence("All is as THE IMAGE: the DAY. NO: there is none.");
        LongTrail x = new LongTrail();
        x.run(3);
        Due.row("NO", Due.ints(x.back(), x.count(16)), Due.NO, 3);
        x.keep();
        x.run(1);
        Due.row("there is one", Due.ints(x.back(), x.count(16)), 3, 3);
    }

    private static void backAgainAndAgain() {
        Due.sentence("all can become as it is (again and again)");
        LongTrail x = new LongTrail();
        x.walker(0, 7, 0, 9, 9);
        x.keep();
        for (int i = 1; i <= 20; i++) {
            x.run(i % 5 + 1);
            x.walker(x.count(16), 1, 0, 1, 1);
            Due.row("back", Due.ints(x.back(), x.count(16), x.count(3), x.is(0, 0), x.is(0, 1)), 0, 0, 1, 0, 0);
        }
    }

    private static void imageKeepsAllBut() {
        Due.sentence("AN IMAGE keeps all but SHEETS, numbers that wait, THE TAPE");
        LongTrail x = new LongTrail();
        x.sheet(0, 1, 2);
        x.mark(0, 0, 5);
        x.tell(1);
        Due.tape(x, "camp 1");
        x.keep();
        x.mark(0, 0, 6);
        x.sheet(1, 0, 3);
        x.tell(2);
        x.tell(3);
        Due.tape(x, "skip 1+1");
        x.back();
        Due.row("as they are", Due.ints(x.sum(0, 1), x.sum(1, 1), x.count(14), x.count(15)), 6, 0, 3, 8);
        Due.row("THE TAPE", Due.ints(x.text(0, 0), x.of(0, 0)), 0, 1);
        x.sheet(0, -1, 0);
        x.check(1);
        x.back();
        Due.row("MISSING, none, empty", Due.ints(x.sum(0, 1), x.count(14), x.count(15), x.count(10)), Due.NOTHING, 0, 0, 0);
    }

    private static void imageOfTables() {
        Due.sentence("AN IMAGE keeps all (full tables, and back to empty ones)");
        LongTrail x = new LongTrail();
        x.keep();
        fill(x);
        int[] full = counts(x);
        Due.row("full", full, 16, 6, 6, 10, 10, 0, 0, 0, 20, 20, 12, 16, 12, 20, 0, 0, 0, 399);
        x.back();
        Due.row("empty", counts(x), 0, 0, 0, 0, 0, 0, 0, 0, 0, 0, 0, 0, 0, 0, 0, 0, 0, 400);
        Due.row("COST, QUOTA, BEGIN", Due.ints(x.cost(10), x.quota(6, 1), x.land(3, Due.NONE)), 10, 1, Due.NONE);
        LongTrail y = new LongTrail();
        fill(y);
        y.keep();
        y.run(30);
        y.cost(1);
        y.quota(6, 1);
        y.land(3, 5);
        y.back();
        Due.row("full again", counts(y), full);
        Due.row("COST, QUOTA, BEGIN", Due.ints(y.cost(10), y.quota(6, 1), y.land(3, Due.NONE), y.told(0, 3)), 99, 9, 399, 127);
    }

    private static int[] counts(LongTrail x) {
        int[] got = new int[18];
        for (int what = 0; what < 18; what++) {
            got[what] = x.count(what);
        }
        return got;
    }

    private static void fill(LongTrail x) {
        x.length(399);
        for (int i = 0; i < 16; i++) {
            x.place(3, 5 + 5 * i, 9);
        }
        x.shut(0, 127);
        for (int i = 0; i < 6; i++) {
            x.fire(i, 399, 999);
        }
        for (int i = 0; i < 12; i++) {
            Due.text(x, i % 4, i, "quit 0");
        }
        for (int i = 0; i < 10; i++) {
            x.walker(i, 40, 5, 20, 99);
        }
        for (int i = 0; i < 20; i++) {
            x.box(i % 10, i % 16, 20, 99);
            x.picture(999, 399);
        }
        for (int i = 0; i < 16; i++) {
            x.wish(999, 9);
        }
        for (int i = 0; i < 12; i++) {
            x.ride(0, 1 + i, 999);
        }
        x.cost(99);
        x.quota(6, 9);
        x.land(3, 399);
    }

    private static void imageOfTheEmpty() {
        Due.sentence("AN IMAGE keeps all (what comes behind it is as new)");
        LongTrail x = new LongTrail();
        x.keep();
        fill(x);
        x.run(60);
        x.back();
        x.place(3, 5, 1);
        x.walker(0, 1, 0, 1, 1);
        x.box(0, 0, 1, 5);
        Due.row("a TOWN", Due.ints(x.told(0, 0), x.told(0, 1), x.told(0, 2), x.told(0, 3), x.told(0, 5)), 3, 5, 1, 0, 1);
        Due.row("a WALKER", Due.walker(x, 0, 0, 14), 0, 0, 1, 0, 0, 0, 0, 0, 0, 0, 0, 0, 0, 0, 1);
        Due.row("a BOX", Due.ints(x.boxTold(0, 0), x.boxTold(0, 1), x.boxTold(0, 2), x.boxTold(0, 3), x.boxTold(0, 4)),
                0, 0, 1, 5, 0);
    }

    private static void walkerAsNew() {
        Due.sentence("As a WALKER comes all these numbers are 0 (behind one that is gone with its DAYS, too)");
        LongTrail x = new LongTrail();
        x.fire(0, 10, 0);
        Due.text(x, 0, 0, "skip 1");
        Due.text(x, 0, 0, "quit 0");
        Due.text(x, 0, 0, "camp 0");
        x.keep();
        x.walker(0, 2, 0, 1, 1);
        x.run(3);
        x.place(3, 12, 1);
        x.box(0, 0, 1, 99);
        x.run(1);
        x.zero(0, 9);
        x.finds(0, 1);
        Due.row("one that has some of all", Due.walker(x, 0, 0, 14), 1, 12, 2, 1, 2, 1, 2, 3, 2, 9, 1, 3, 3, 10, 1);
        x.back();
        x.walker(1, 7, 0, 1, 1);
        Due.row("one that comes", Due.walker(x, 0, 0, 14), 0, 0, 7, 0, 0, 0, 0, 0, 0, 0, 0, 0, 0, 0, 0);
    }

    private static void countBounds() {
        Due.sentence("How many: 0 PLACES, .. 17 LENGTH. BAD.");
        Due.bounds("what", 0, 17, v -> new LongTrail().count(v));
        for (int what = 0; what < 18; what++) {
            Due.is("a new object: " + what, new LongTrail().count(what), what == 17 ? 400 : 0);
        }
        LongTrail x = new LongTrail();
        for (int i = 0; i < 8; i++) {
            x.feed(0, 0, 0);
        }
        for (int i = 0; i < 60; i++) {
            x.tell(0);
        }
        Due.row("numbers that wait, bytes", Due.ints(x.count(14), x.count(15)), 60, 96);
    }

    private static void countStates() {
        Due.sentence("1 FIRES, 2 of these on now, 3 WALKERS, 4 that WAIT, 5 WALK, 6 QUIT, 7 are DONE, 8 BOXES, 9 of these OPEN");
        LongTrail x = new LongTrail();
        x.length(20);
        x.place(3, 0, 1);
        x.fire(18, 19, 2003);
        x.fire(19, 20, 99);
        x.walker(0, 20, 0, 9, 9);
        x.box(0, 0, 1, 0);
        x.box(0, 0, 1, 9);
        x.walker(9, 20, 0, 9, 9);
        Due.row("DAY 0", counts(x), 1, 2, 1, 2, 2, 0, 0, 0, 2, 2, 0, 0, 0, 0, 0, 0, 0, 20);
        x.run(1);
        Due.row("DAY 1", counts(x), 1, 2, 1, 2, 1, 1, 0, 0, 2, 1, 0, 0, 0, 0, 0, 0, 1, 20);
        Due.text(x, 0, 0, "quit 1");
        x.run(1);
        Due.row("DAY 2", counts(x), 1, 2, 2, 2, 1, 0, 1, 0, 2, 0, 1, 0, 0, 0, 0, 0, 2, 20);
    }

    private static void callsAtMost() {
        Due.sentence("An object is used for at most 512 calls after it has been made");
        LongTrail x = new LongTrail();
        x.keep();
        for (int call = 2; call <= 508; call += 4) {
            x.feed(0x63616d70, 0x20312020, 0x20202020);
            Due.is("text, call " + (call + 1), x.text(0, 0), 0);
            x.run(1);
            Due.is("back, call " + (call + 3), x.back(), 0);
        }
        LongTrail y = new LongTrail();
        for (int i = 0; i < 10; i++) {
            y.walker(0, 1, 0, 20, 99);
        }
        y.keep();
        for (int call = 12; call < 512; call++) {
            Due.is("crowd, call " + call, y.crowd(60), 10);
        }
        Due.is("call 512", y.back(), 0);
    }
}
