import java.util.ArrayList;
import java.util.List;
import java.util.function.Function;

/** Objects that hold something of everything or are full, and all that an object can tell: for tests that compare two. */
final class Twins {
    /** What an object tells; each of these uses it up, and all keep under 512 calls. */
    static final List<Function<LongTrail, int[]>> TELLING = List.of(Twins::tellsPlaces, Twins::tellsWalkers,
            Twins::tellsBoxesAndTexts, Twins::tellsPermits, Twins::tellsSheets, Twins::tellsTapeAndNumbers, Twins::tellsImage,
            Twins::tellsNextDays, Twins::tellsFarDays);

    private Twins() {
    }

    /**
     * PLACES: 0 PLACE, 1 WATER, 2 HUT, 3 TOWN, 4 TOWN, 5 CAMP, 6 TOWN, 7 PASS. WALKERS: 0 WALKS at TOWN 3, 1 WALKS, 2 QUIT,
     * 3 DONE, 4 WAITS. BOXES: 0 TAKEN, 1 OPEN, 2 GIVEN ON, 3 OPEN. SHEETS of 3 bytes, 24 ints, no longs, and MISSING.
     */
    static void ofEverything(LongTrail x) {
        x.length(60);
        int[] a = {0, 0, 2, 3, 1, 5, 1};
        int[] miles = {5, 35, 50, 20, 0, 55, 40};
        int[] kinds = {0, 1, 2, 3, 3, 5, 3};
        for (int i = 0; i < kinds.length; i++) {
            x.place(kinds[i], miles[i], a[i]);
        }
        x.shut(6, 3);
        x.land(1, 30);
        x.land(3, 58);
        x.fire(48, 52, 3030);
        x.fire(25, 30, 40060);
        Due.text(x, 0, 0, "camp n<2");
        Due.text(x, 0, 0, "quit s=15|h>2");
        Due.text(x, 1, 6, "skip l<9");
        Due.text(x, 0, 0, "draw d*p");
        x.walker(0, 10, 2, 6, 9);
        x.walker(1, 7, 1, 9, 9);
        x.walker(0, 15, 0, 9, 9);
        x.walker(0, 40, 0, 9, 9);
        x.walker(20, 12, 0, 9, 9);
        x.box(0, 4, 2, 0);
        x.box(0, 3, 3, 3);
        x.box(2, 6, 3, 3);
        x.box(1, 6, 4, 9);
        x.quota(3, 2);
        x.quota(4, 0);
        x.wish(3, 1);
        x.wish(3, 2);
        x.wish(9, 0);
        x.cost(7);
        x.ride(3, 6, 40);
        x.ride(4, 3, 30);
        x.picture(1, 10);
        x.picture(2, 20);
        x.picture(2, 21);
        x.run(2);
        x.place(4, 45, 1);
        x.sheet(0, 0, 3);
        x.mark(0, 1, -5);
        x.sheet(1, 1, 24);
        x.mark(1, 23, 1 << 30);
        x.sheet(2, 2, 0);
        x.keep();
        x.run(1);
        Due.row("states", Due.ints(x.is(0, 0), x.is(1, 0), x.is(2, 0), x.is(3, 0), x.is(4, 0), x.is(0, 1)), 1, 1, 2, 3, 0, 20);
        Due.row("BOXES", Due.ints(x.boxTold(0, 4), x.boxTold(1, 4), x.boxTold(2, 4), x.boxTold(3, 4)), 1, 0, 2, 0);
        Due.tape(x, "camp m>5");
        x.tell(20 + 14 + 15 + 60);
        x.tell(999);
    }

    static void full(LongTrail x) {
        Due.runTo(x, 999);
        for (int i = 0; i < 16; i++) {
            x.place(i == 15 ? 2 : 3, 5 * i, 9);
        }
        for (int i = 0; i < 6; i++) {
            x.fire(80 + i, 90, 999);
        }
        for (int i = 0; i < 12; i++) {
            Due.text(x, i % 4, i, i % 2 == 0 ? "quit 0" : "draw d");
        }
        for (int i = 0; i < 10; i++) {
            x.walker(999, 4 * (i + 1), 5, 20, 99);
        }
        for (int i = 0; i < 20; i++) {
            x.box(i % 10, i % 15, 20 - i, 99);
            x.picture(999 - i, 400 - i);
        }
        for (int i = 0; i < 16; i++) {
            x.wish(999 - i, i % 10);
        }
        for (int i = 0; i < 12; i++) {
            x.ride(i, i + 1, 999);
        }
        x.keep();
        for (int i = 0; i < 8; i++) {
            x.feed(0x63616d70, 0x20312020, 0x20202020);
        }
        for (int i = 0; i < 60; i++) {
            x.tell(0);
        }
        Due.row("full", Due.ints(x.count(0), x.count(1), x.count(3), x.count(8), x.count(10), x.count(11), x.count(12),
                x.count(13), x.count(14), x.count(15), x.count(16)), 16, 6, 10, 20, 12, 16, 12, 20, 60, 96, 999);
    }

    private static int[] tellsPlaces(LongTrail x) {
        Numbers all = new Numbers();
        for (int what = 0; what < 18; what++) {
            all.add(x.count(what));
        }
        for (int i = 0; i < 17; i++) {
            for (int what = 0; what < 6; what++) {
                all.add(x.told(i, what));
            }
        }
        for (int mile = 0; mile <= 60; mile += 5) {
            all.add(x.landAt(mile), x.burns(mile), x.dry(mile), x.landAt(mile + 3), x.burns(mile + 3));
        }
        return all.row();
    }

    private static int[] tellsWalkers(LongTrail x) {
        Numbers all = new Numbers();
        for (int i = 0; i < 11; i++) {
            all.add(Due.walker(x, i, 0, 14));
        }
        return all.row();
    }

    private static int[] tellsBoxesAndTexts(LongTrail x) {
        Numbers all = new Numbers();
        for (int i = 0; i < 21; i++) {
            for (int what = 0; what < 5; what++) {
                all.add(x.boxTold(i, what));
            }
        }
        for (int i = 0; i < 13; i++) {
            all.add(x.of(i, 0), x.of(i, 1), x.of(i, 2), x.of(i, 3));
        }
        for (int i = 0; i < 16; i++) {
            all.add(x.why(i / 4, i % 4));
        }
        return all.row();
    }

    private static int[] tellsPermits(LongTrail x) {
        Numbers all = new Numbers();
        for (int i = 0; i < 17; i++) {
            all.add(x.granted(i), x.minutes(0, i), x.minutes(3, i), x.proved(9, i));
        }
        for (int i = 0; i < 7; i++) {
            all.add(x.would(i), x.round(i), x.plan(5 + i, 9, 0), x.plan(5 + i, 9, 2), x.quota(i, 3));
        }
        all.add(x.cost(3), x.crowd(1), x.crowd(9));
        return all.row();
    }

    private static int[] tellsSheets(LongTrail x) {
        Numbers all = new Numbers();
        for (int i = 0; i < 4; i++) {
            all.add(x.sum(i, 1));
            for (int place = 0; place < 25; place++) {
                all.add(x.mark(i, place, 255), x.mark(i, place, 0));
            }
        }
        return all.row();
    }

    private static int[] tellsTapeAndNumbers(LongTrail x) {
        Numbers all = new Numbers();
        all.add(x.count(14), x.count(15), x.text(0, 0), x.of(x.count(10) - 1, 3), x.check(2));
        for (int land = 1; land <= 3; land++) {
            all.add(x.land(land, Due.NONE));
        }
        return all.row();
    }

    private static int[] tellsImage(LongTrail x) {
        Numbers all = new Numbers();
        all.add(x.back());
        for (int what = 0; what < 18; what++) {
            all.add(x.count(what));
        }
        for (int i = 0; i < 5; i++) {
            all.add(Due.walker(x, i, 0, 14));
            all.add(x.boxTold(i, 3), x.boxTold(i, 4), x.told(i, 2), x.told(i, 3), x.granted(i));
        }
        all.add(x.cost(3), x.quota(3, 1), x.quota(4, 1), x.run(5));
        for (int i = 0; i < 5; i++) {
            all.add(x.is(i, 1), x.is(i, 3), x.is(i, 11), x.is(i, 12));
        }
        return all.row();
    }

    private static int[] tellsNextDays(LongTrail x) {
        Numbers all = new Numbers();
        for (int day = 0; day < 3; day++) {
            all.add(x.run(1), x.count(2), x.burns(27), x.burns(50));
            for (int i = 0; i < 4; i++) {
                all.add(Due.walker(x, i, 0, 14));
            }
        }
        return all.row();
    }

    private static int[] tellsFarDays(LongTrail x) {
        Numbers all = new Numbers();
        for (int days : new int[] {9, 40}) {
            all.add(x.run(days), x.count(2), x.burns(27), x.burns(50), x.count(9));
            for (int i = 0; i < 5; i++) {
                all.add(Due.walker(x, i, 0, 14));
            }
        }
        return all.row();
    }

    private static final class Numbers {
        private final List<Integer> all = new ArrayList<>();

        void add(int... v) {
            for (int each : v) {
                all.add(each);
            }
        }

        int[] row() {
            return all.stream().mapToInt(Integer::intValue).toArray();
        }
    }
}
