/** Promises 42 to 46: numbers that wait, images and counts. */
public final class ImageTest {
    public static void main(String[] args) {
        tell();
        check();
        checkBeyondTheLastDay();
        keepAndBack();
        imageOfEverything();
        count();
        Due.end("ImageTest");
    }

    private static void tell() {
        LongTrail x = new LongTrail();
        for (int i = 1; i <= 60; i++) {
            Due.is("tell", x.tell(i), i);
        }
        Due.is("tell: FULL", x.tell(1), Due.FULL);
        Due.is("numbers that wait", x.count(14), 60);
        Due.is("check: NO", x.check(1), Due.NO);
        Due.is("none wait", x.count(14), 0);
        x.tell(1);
        Due.is("check: BAD stands ahead of NO", x.check(0), Due.BAD);
        Due.is("none wait", x.count(14), 0);
    }

    private static void check() {
        LongTrail x = new LongTrail();
        x.length(30);
        x.walker(0, 10, 0, 2, 99);
        x.walker(1, 20, 0, 3, 99);
        x.keep();
        x.run(2);
        x.finds(0, 1);
        int[] due = {10, 1, 20 + 20, 0 + 2, 25 + 30, 0 + 1, 30 + 30, 0 + 1, 30 + 30, 0 + 1};
        for (int n = 1; n <= 5; n++) {
            for (int told = 0; told <= 10; told++) {
                for (int i = 0; i < told; i++) {
                    x.tell(due[i]);
                }
                int right = Math.min(told, 2 * n);
                Due.is("check(" + n + ") of " + told, x.check(n), told == 2 * n ? 0 : 1 + right);
                Due.is("none wait", x.count(14), 0);
            }
        }
        for (int wrong = 0; wrong < 10; wrong++) {
            for (int i = 0; i < 10; i++) {
                x.tell(i == wrong ? due[i] + 1 : due[i]);
            }
            Due.is("check: wrong at " + wrong, x.check(5), 1 + wrong);
        }
        Due.all("check: BAD", Due.BAD, x.check(0), x.check(31), x.check(-1));
        Due.row("nothing went by", Due.ints(x.count(16), x.is(0, 1), x.is(0, 3)), 2, 20, 1);
        Due.is("check: nobody told", x.check(30), 1);
    }

    private static void checkBeyondTheLastDay() {
        LongTrail x = new LongTrail();
        for (int i = 0; i < 16; i++) {
            x.run(60);
        }
        x.run(39);
        x.fire(5, 6, 999999);
        x.walker(999, 2, 0, 20, 99);
        x.walker(999, 10, 0, 20, 99);
        x.keep();
        int[] miles = {2 + 5, 4 + 15, 5 + 25 + 1};
        for (int i = 0; i < 3; i++) {
            x.tell(miles[i]);
            x.tell(38 - 2 * i);
        }
        Due.is("check beyond DAY 999", x.check(3), 0);
        Due.is("the DAY", x.count(16), 999);
    }

    private static void keepAndBack() {
        LongTrail x = new LongTrail();
        Due.is("back: NO", x.back(), Due.NO);
        x.run(3);
        Due.is("keep", x.keep(), 3);
        x.run(4);
        Due.is("back", x.back(), 3);
        x.run(5);
        Due.is("back again", x.back(), 3);
        x.run(1);
        Due.is("keep", x.keep(), 4);
        x.run(1);
        Due.is("back to the last one", x.back(), 4);
        x.sheet(0, 1, 1);
        x.tell(5);
        x.feed(0x63616d70, 0x20312020, 0x20202020);
        x.back();
        Due.row("SHEETS, numbers that wait and THE TAPE stay", Due.ints(x.sum(0, 1), x.count(14), x.count(15)), 0, 1, 12);
        Due.is("so does what is on THE TAPE", x.text(0, 0), 0);
    }

    private static void imageOfEverything() {
        LongTrail x = new LongTrail();
        fill(x, 0);
        int[] before = all(x);
        x.keep();
        change(x);
        int[] changed = all(x);
        int unlike = 0;
        for (int i = 0; i < before.length; i++) {
            unlike += before[i] == changed[i] ? 0 : 1;
        }
        Due.is("much is unlike", unlike > 40 ? 1 : 0, 1);
        Due.is("back", x.back(), 2);
        Due.row("all as it was", all(x), before);
        Due.is("a new WALKER has nothing of the one that is gone", x.walker(2, 3, 0, 4, 5), 2);
        Due.row("new", Due.walker(x, 2, 0, 14), 0, 0, 3, 0, 0, 0, 0, 0, 0, 0, 0, 0, 0, 0, 0);
        Due.is("a new TOWN is not SHUT", x.place(3, 210, 1), 4);
        Due.is("a new TOWN is not SHUT", x.told(4, 3), 0);
        Due.row("and again", Due.ints(x.back(), x.count(0), x.count(3)), 2, 4, 2);
    }

    private static void fill(LongTrail x, int more) {
        x.length(300);
        x.place(3, 20, 2);
        x.place(1, 35, 0);
        x.place(4, 60, 0);
        x.place(3, 120, 1);
        x.shut(0, 2);
        x.land(1, 30);
        x.fire(40, 50, 3 + more);
        Due.text(x, 0, 0, "camp 0");
        Due.text(x, 1, 0, "draw d");
        x.walker(0, 10, 1, 5, 9);
        x.walker(1, 12, 1, 5, 9);
        x.box(0, 0, 3, 0);
        x.box(1, 3, 3, 50);
        x.quota(3, 2);
        x.wish(3, 1);
        x.wish(3, 1);
        x.cost(5);
        x.ride(0, 3, 40);
        x.picture(1, 10);
        x.picture(2, 20);
        x.run(2);
    }

    private static void change(LongTrail x) {
        x.walker(2, 9, 3, 3, 3);
        x.place(3, 200, 1);
        x.shut(4, 5);
        x.shut(0, 7);
        x.land(1, 5);
        x.land(2, 20);
        x.fire(0, 5, 99);
        Due.text(x, 0, 0, "camp 1");
        Due.text(x, 0, 0, "draw 0-p");
        x.box(0, 4, 3, 0);
        x.quota(3, 0);
        x.quota(4, 4);
        x.wish(3, 1);
        x.cost(77);
        x.ride(0, 3, 30);
        x.picture(3, 30);
        x.run(6);
        x.send(1, 0, 1);
        x.zero(1, 4);
        x.run(3);
    }

    /** All that an object tells of itself without a change. */
    private static int[] all(LongTrail x) {
        int[] got = new int[200];
        int n = 0;
        for (int what = 0; what <= 17; what++) {
            got[n++] = x.count(what);
        }
        for (int i = 0; i < 5; i++) {
            for (int what = 0; what <= 5; what++) {
                got[n++] = x.told(i, what);
            }
        }
        for (int i = 0; i < 3; i++) {
            for (int what = 0; what <= 14; what++) {
                got[n++] = x.is(i, what);
            }
            for (int what = 0; what <= 4; what++) {
                got[n++] = x.boxTold(i, what);
            }
            got[n++] = x.granted(i);
            got[n++] = x.of(i, 0);
            got[n++] = x.why(i, 0);
            got[n++] = x.proved(50, i);
        }
        got[n++] = x.would(1);
        got[n++] = x.minutes(0, 3);
        got[n++] = x.round(0);
        got[n++] = x.landAt(7);
        got[n++] = x.landAt(25);
        got[n++] = x.burns(2);
        got[n++] = x.dry(130);
        got[n++] = x.plan(10, 20, 0);
        got[n++] = x.crowd(9);
        return java.util.Arrays.copyOf(got, n);
    }

    private static void count() {
        LongTrail x = new LongTrail();
        Due.all("count: BAD", Due.BAD, x.count(-1), x.count(18), x.count(Integer.MIN_VALUE));
        fill(x, 0);
        Due.row("count", Due.ints(x.count(0), x.count(1), x.count(2), x.count(3), x.count(4), x.count(5), x.count(6),
                x.count(7), x.count(8), x.count(9), x.count(10), x.count(11), x.count(12), x.count(13), x.count(14),
                x.count(15), x.count(16), x.count(17)), 4, 1, 1, 2, 0, 2, 0, 0, 2, 2, 2, 2, 1, 2, 0, 0, 2, 300);
    }
}
