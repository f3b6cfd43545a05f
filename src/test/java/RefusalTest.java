import java.util.ArrayList;
import java.util.List;
import java.util.function.Consumer;
import java.util.function.Function;
import java.util.function.ToIntFunction;

/**
 * "A call that is refused answers one of BAD, NO, FULL, or a FINDING, of several the one that stands first with it, and
 * changes nothing (but the tape and the numbers that wait, where told)." Each refused call of each promise is made on an
 * object that holds something of everything, or that is full; then all that an object can tell, now, on later days and
 * from its image, is compared with a twin that did not get the call. Calls that only tell are tested likewise.
 */
public final class RefusalTest {
    /** What an object tells; each of these uses it up, and keeps far under 512 calls. */
    private static final List<Function<LongTrail, int[]>> TELLING = List.of(RefusalTest::tellsPlaces,
            RefusalTest::tellsWalkers, RefusalTest::tellsBoxesAndTexts, RefusalTest::tellsPermits, RefusalTest::tellsSheets,
            RefusalTest::tellsTapeAndNumbers, RefusalTest::tellsImage, RefusalTest::tellsNextDays, RefusalTest::tellsFarDays);

    private static Consumer<LongTrail> state;
    private static final List<int[]> dueOfTwin = new ArrayList<>();

    public static void main(String[] args) {
        Due.sentence("A call that is refused .. changes nothing");
        in(RefusalTest::ofEverything);
        trail();
        texts();
        walkers();
        boxes();
        permits();
        sheets();
        rows();
        Due.sentence("(calls that only tell change nothing)");
        onlyTold();
        Due.sentence("A call that is refused .. changes nothing (an object that is full)");
        in(RefusalTest::full);
        fullTables();
        onlyTold();
        Due.sentence("A call that is refused .. changes nothing (a new object)");
        in(x -> { });
        newObject();
        onlyTold();
        Due.end("RefusalTest");
    }

    /** What comes next is called on objects that are made so. */
    private static void in(Consumer<LongTrail> making) {
        state = making;
        dueOfTwin.clear();
        for (Function<LongTrail, int[]> tells : TELLING) {
            dueOfTwin.add(tells.apply(made()));
        }
    }

    private static LongTrail made() {
        LongTrail x = new LongTrail();
        state.accept(x);
        return x;
    }

    private static void refused(int due, String name, ToIntFunction<LongTrail> call) {
        Due.is(name, call.applyAsInt(made()), due);
        unchanged(name, call);
    }

    private static void unchanged(String name, ToIntFunction<LongTrail> call) {
        for (int i = 0; i < TELLING.size(); i++) {
            LongTrail x = made();
            call.applyAsInt(x);
            Due.row(name + ", then " + i, TELLING.get(i).apply(x), dueOfTwin.get(i));
        }
    }

    /** The call may use up the tape or the numbers that wait, as a taken call does. */
    private static void refusedAs(int due, String name, ToIntFunction<LongTrail> call, ToIntFunction<LongTrail> taken) {
        Due.is(name, call.applyAsInt(made()), due);
        for (int i = 0; i < TELLING.size(); i++) {
            LongTrail x = made();
            call.applyAsInt(x);
            LongTrail twin = made();
            taken.applyAsInt(twin);
            Due.row(name + ", then " + i, TELLING.get(i).apply(x), TELLING.get(i).apply(twin));
        }
    }

    /**
     * PLACES: 0 PLACE, 1 WATER, 2 HUT, 3 TOWN, 4 TOWN, 5 CAMP, 6 TOWN, 7 PASS. WALKERS: 0 WALKS at TOWN 3, 1 WALKS, 2 QUIT,
     * 3 DONE, 4 WAITS. BOXES: 0 TAKEN, 1 OPEN, 2 GIVEN ON, 3 OPEN. SHEETS of 3 bytes, 24 ints, no longs, and MISSING.
     */
    private static void ofEverything(LongTrail x) {
        x.length(60);
        int[] a = {0, 0, 2, 3, 1, 5, 1};
        int[] miles = {5, 35, 50, 20, 0, 55, 40};
        int[] kinds = {0, 1, 2, 3, 3, 5, 3};
        for (int i = 0; i < kinds.length; i++) {
            x.place(kinds[i], miles[i], a[i]);
        }
        x.shut(6, 3);
        x.land(1, 30);
        x.land(3, 58);
        x.fire(48, 52, 3030);
        x.fire(25, 30, 40060);
        Due.text(x, 0, 0, "camp n<2");
        Due.text(x, 0, 0, "quit s=15|h>2");
        Due.text(x, 1, 6, "skip l<9");
        Due.text(x, 0, 0, "draw d*p");
        x.walker(0, 10, 2, 6, 9);
        x.walker(1, 7, 1, 9, 9);
        x.walker(0, 15, 0, 9, 9);
        x.walker(0, 40, 0, 9, 9);
        x.walker(20, 12, 0, 9, 9);
        x.box(0, 4, 2, 0);
        x.box(0, 3, 3, 3);
        x.box(2, 6, 3, 3);
        x.box(1, 6, 4, 9);
        x.quota(3, 2);
        x.quota(4, 0);
        x.wish(3, 1);
        x.wish(3, 2);
        x.wish(9, 0);
        x.cost(7);
        x.ride(3, 6, 40);
        x.ride(4, 3, 30);
        x.picture(1, 10);
        x.picture(2, 20);
        x.picture(2, 21);
        x.run(2);
        x.place(4, 45, 1);
        x.sheet(0, 0, 3);
        x.mark(0, 1, -5);
        x.sheet(1, 1, 24);
        x.mark(1, 23, 1 << 30);
        x.sheet(2, 2, 0);
        x.keep();
        x.run(1);
        Due.row("states", Due.ints(x.is(0, 0), x.is(1, 0), x.is(2, 0), x.is(3, 0), x.is(4, 0), x.is(0, 1)), 1, 1, 2, 3, 0, 20);
        Due.row("BOXES", Due.ints(x.boxTold(0, 4), x.boxTold(1, 4), x.boxTold(2, 4), x.boxTold(3, 4)), 1, 0, 2, 0);
        Due.tape(x, "camp m>5");
        x.tell(20 + 14 + 15 + 60);
        x.tell(999);
    }

    private static void full(LongTrail x) {
        Due.runTo(x, 999);
        for (int i = 0; i < 16; i++) {
            x.place(i == 15 ? 2 : 3, 5 * i, 9);
        }
        for (int i = 0; i < 6; i++) {
            x.fire(80 + i, 90, 999);
        }
        for (int i = 0; i < 12; i++) {
            Due.text(x, i % 4, i, i % 2 == 0 ? "quit 0" : "draw d");
        }
        for (int i = 0; i < 10; i++) {
            x.walker(999, 4 * (i + 1), 5, 20, 99);
        }
        for (int i = 0; i < 20; i++) {
            x.box(i % 10, i % 15, 20 - i, 99);
            x.picture(999 - i, 400 - i);
        }
        for (int i = 0; i < 16; i++) {
            x.wish(999 - i, i % 10);
        }
        for (int i = 0; i < 12; i++) {
            x.ride(i, i + 1, 999);
        }
        x.keep();
        for (int i = 0; i < 8; i++) {
            x.feed(0x63616d70, 0x20312020, 0x20202020);
        }
        for (int i = 0; i < 60; i++) {
            x.tell(0);
        }
        Due.row("full", Due.ints(x.count(0), x.count(1), x.count(3), x.count(8), x.count(10), x.count(11), x.count(12),
                x.count(13), x.count(14), x.count(15), x.count(16)), 16, 6, 10, 20, 12, 16, 12, 20, 60, 96, 999);
    }

    private static int[] tellsPlaces(LongTrail x) {
        Numbers all = new Numbers();
        for (int what = 0; what < 18; what++) {
            all.add(x.count(what));
        }
        for (int i = 0; i < 17; i++) {
            for (int what = 0; what < 6; what++) {
                all.add(x.told(i, what));
            }
        }
        for (int mile = 0; mile <= 60; mile += 5) {
            all.add(x.landAt(mile), x.burns(mile), x.dry(mile), x.landAt(mile + 3), x.burns(mile + 3));
        }
        return all.row();
    }

    private static int[] tellsWalkers(LongTrail x) {
        Numbers all = new Numbers();
        for (int i = 0; i < 11; i++) {
            all.add(Due.walker(x, i, 0, 14));
        }
        return all.row();
    }

    private static int[] tellsBoxesAndTexts(LongTrail x) {
        Numbers all = new Numbers();
        for (int i = 0; i < 21; i++) {
            for (int what = 0; what < 5; what++) {
                all.add(x.boxTold(i, what));
            }
        }
        for (int i = 0; i < 13; i++) {
            all.add(x.of(i, 0), x.of(i, 1), x.of(i, 2), x.of(i, 3));
        }
        for (int i = 0; i < 16; i++) {
            all.add(x.why(i / 4, i % 4));
        }
        return all.row();
    }

    private static int[] tellsPermits(LongTrail x) {
        Numbers all = new Numbers();
        for (int i = 0; i < 17; i++) {
            all.add(x.granted(i), x.minutes(0, i), x.minutes(3, i), x.proved(9, i));
        }
        for (int i = 0; i < 7; i++) {
            all.add(x.would(i), x.round(i), x.plan(5 + i, 9, 0), x.plan(5 + i, 9, 2), x.quota(i, 3));
        }
        all.add(x.cost(3), x.crowd(1), x.crowd(9));
        return all.row();
    }

    private static int[] tellsSheets(LongTrail x) {
        Numbers all = new Numbers();
        for (int i = 0; i < 4; i++) {
            all.add(x.sum(i, 1));
            for (int place = 0; place < 25; place++) {
                all.add(x.mark(i, place, 255), x.mark(i, place, 0));
            }
        }
        return all.row();
    }

    private static int[] tellsTapeAndNumbers(LongTrail x) {
        Numbers all = new Numbers();
        all.add(x.count(14), x.count(15), x.text(0, 0), x.of(x.count(10) - 1, 3), x.check(2));
        for (int land = 1; land <= 3; land++) {
            all.add(x.land(land, Due.NONE));
        }
        return all.row();
    }

    private static int[] tellsImage(LongTrail x) {
        Numbers all = new Numbers();
        all.add(x.back());
        for (int what = 0; what < 18; what++) {
            all.add(x.count(what));
        }
        for (int i = 0; i < 5; i++) {
            all.add(Due.walker(x, i, 0, 14));
            all.add(x.boxTold(i, 3), x.boxTold(i, 4), x.told(i, 2), x.told(i, 3), x.granted(i));
        }
        all.add(x.cost(3), x.quota(3, 1), x.quota(4, 1), x.run(5));
        for (int i = 0; i < 5; i++) {
            all.add(x.is(i, 1), x.is(i, 3), x.is(i, 11), x.is(i, 12));
        }
        return all.row();
    }

    private static int[] tellsNextDays(LongTrail x) {
        Numbers all = new Numbers();
        for (int day = 0; day < 4; day++) {
            all.add(x.run(1), x.count(2), x.burns(27), x.burns(50));
            for (int i = 0; i < 5; i++) {
                all.add(Due.walker(x, i, 0, 14));
            }
        }
        return all.row();
    }

    private static int[] tellsFarDays(LongTrail x) {
        Numbers all = new Numbers();
        for (int days : new int[] {9, 20, 30}) {
            all.add(x.run(days), x.count(2), x.burns(27), x.burns(50), x.count(9));
            for (int i = 0; i < 5; i++) {
                all.add(Due.walker(x, i, 0, 14));
            }
        }
        return all.row();
    }

    private static final class Numbers {
        private final List<Integer> all = new ArrayList<>();

        void add(int... v) {
            for (int each : v) {
                all.add(each);
            }
        }

        int[] row() {
            return all.stream().mapToInt(Integer::intValue).toArray();
        }
    }

    private static void trail() {
        refused(Due.BAD, "length(19)", x -> x.length(19));
        refused(Due.BAD, "length(2001)", x -> x.length(2001));
        refused(Due.NO, "length(60)", x -> x.length(60));
        refused(Due.NO, "length(2000)", x -> x.length(2000));
        refused(Due.BAD, "place(-1, 1, 0)", x -> x.place(-1, 1, 0));
        refused(Due.BAD, "place(6, 1, 0)", x -> x.place(6, 1, 0));
        refused(Due.BAD, "place(0, -1, 0)", x -> x.place(0, -1, 0));
        refused(Due.BAD, "place(0, 61, 0)", x -> x.place(0, 61, 0));
        refused(Due.BAD, "place(0, 1, 1)", x -> x.place(0, 1, 1));
        refused(Due.BAD, "place(3, 1, 10)", x -> x.place(3, 1, 10));
        refused(Due.BAD, "place(4, 1, 143)", x -> x.place(4, 1, 143));
        refused(Due.NO, "place(1, 20, 0)", x -> x.place(1, 20, 0));
        refused(Due.BAD, "told(8, 0)", x -> x.told(8, 0));
        refused(Due.BAD, "told(0, 6)", x -> x.told(0, 6));
        refused(Due.BAD, "as(8, 0)", x -> x.as(8, 0));
        refused(Due.KIND, "as(0, 3)", x -> x.as(0, 3));
        refused(Due.BAD, "shut(8, 1)", x -> x.shut(8, 1));
        refused(Due.BAD, "shut(3, 128)", x -> x.shut(3, 128));
        refused(Due.BAD, "shut(6, -1)", x -> x.shut(6, -1));
        refused(Due.KIND, "shut(2, 1)", x -> x.shut(2, 1));
        refused(Due.BAD, "land(0, 5)", x -> x.land(0, 5));
        refused(Due.BAD, "land(4, 5)", x -> x.land(4, 5));
        refused(Due.BAD, "land(1, 61)", x -> x.land(1, 61));
        refused(Due.BAD, "land(3, -1)", x -> x.land(3, -1));
        refused(Due.BAD, "landAt(61)", x -> x.landAt(61));
        refused(Due.BAD, "fire(5, 5, 99)", x -> x.fire(5, 5, 99));
        refused(Due.BAD, "fire(5, 61, 99)", x -> x.fire(5, 61, 99));
        refused(Due.BAD, "fire(-1, 6, 99)", x -> x.fire(-1, 6, 99));
        refused(Due.BAD, "fire(5, 6, 4003)", x -> x.fire(5, 6, 4003));
        refused(Due.BAD, "fire(5, 6, 1000000)", x -> x.fire(5, 6, 1000000));
        refused(Due.BAD, "burns(61)", x -> x.burns(61));
        refused(Due.BAD, "dry(-1)", x -> x.dry(-1));
    }

    private static void texts() {
        refused(Due.BAD, "trim(9)", x -> x.trim(9));
        refused(Due.BAD, "trim(-1)", x -> x.trim(-1));
        refusedAs(Due.BAD, "text(4, 0)", x -> x.text(4, 0), x -> x.trim(0));
        refusedAs(Due.BAD, "text(0, 1000)", x -> x.text(0, 1000), x -> x.trim(0));
        refusedAs(-108, "text of camp m>5?", x -> faulty(x), x -> x.trim(0));
        refused(Due.BAD, "of(4, 0)", x -> x.of(4, 0));
        refused(Due.BAD, "of(0, 4)", x -> x.of(0, 4));
        refused(Due.BAD, "why(4, 0)", x -> x.why(4, 0));
    }

    private static int faulty(LongTrail x) {
        x.feed('?' << 24, 0, 0);
        return x.text(0, 0);
    }

    private static void walkers() {
        refused(Due.BAD, "walker(2, 1, 0, 1, 1)", x -> x.walker(2, 1, 0, 1, 1));
        refused(Due.BAD, "walker(1000, 1, 0, 1, 1)", x -> x.walker(1000, 1, 0, 1, 1));
        refused(Due.BAD, "walker(3, 41, 0, 1, 1)", x -> x.walker(3, 41, 0, 1, 1));
        refused(Due.BAD, "walker(3, 1, 6, 1, 1)", x -> x.walker(3, 1, 6, 1, 1));
        refused(Due.BAD, "walker(3, 1, 0, 21, 1)", x -> x.walker(3, 1, 0, 21, 1));
        refused(Due.BAD, "walker(3, 1, 0, 1, 0)", x -> x.walker(3, 1, 0, 1, 0));
        refused(Due.BAD, "is(5, 0)", x -> x.is(5, 0));
        refused(Due.BAD, "is(0, 15)", x -> x.is(0, 15));
        refused(Due.BAD, "shoes(5)", x -> x.shoes(5));
        refused(Due.NO, "shoes(1), at no TOWN", x -> x.shoes(1));
        refused(Due.NO, "shoes(2), QUIT", x -> x.shoes(2));
        refused(Due.NO, "shoes(3), DONE", x -> x.shoes(3));
        refused(Due.NO, "shoes(4), WAITS", x -> x.shoes(4));
        refused(Due.BAD, "zero(5, 1)", x -> x.zero(5, 1));
        refused(Due.BAD, "zero(0, 10)", x -> x.zero(0, 10));
        refused(Due.NO, "zero(2, 1), QUIT", x -> x.zero(2, 1));
        refused(Due.NO, "zero(3, 1), DONE", x -> x.zero(3, 1));
        refused(Due.NO, "zero(4, 1), WAITS", x -> x.zero(4, 1));
        refused(Due.BAD, "finds(5, 1)", x -> x.finds(5, 1));
        refused(Due.BAD, "finds(0, 0)", x -> x.finds(0, 0));
        refused(Due.BAD, "finds(0, 21)", x -> x.finds(0, 21));
        refused(Due.NO, "finds(2, 1), QUIT", x -> x.finds(2, 1));
        refused(Due.NO, "finds(3, 1), DONE", x -> x.finds(3, 1));
        refused(Due.NO, "finds(4, 1), WAITS", x -> x.finds(4, 1));
        refused(Due.BAD, "run(0)", x -> x.run(0));
        refused(Due.BAD, "run(61)", x -> x.run(61));
        refused(Due.BAD, "crowd(0)", x -> x.crowd(0));
        refused(Due.BAD, "crowd(61)", x -> x.crowd(61));
    }

    private static void boxes() {
        refused(Due.BAD, "box(5, 3, 1, 0)", x -> x.box(5, 3, 1, 0));
        refused(Due.BAD, "box(0, 8, 1, 0)", x -> x.box(0, 8, 1, 0));
        refused(Due.BAD, "box(0, 3, 21, 0)", x -> x.box(0, 3, 21, 0));
        refused(Due.BAD, "box(0, 3, 0, 0)", x -> x.box(0, 3, 0, 0));
        refused(Due.BAD, "box(0, 3, 1, 100)", x -> x.box(0, 3, 1, 100));
        refused(Due.KIND, "box(0, 2, 1, 0)", x -> x.box(0, 2, 1, 0));
        refused(Due.NO, "box(2, 3, 1, 0), QUIT", x -> x.box(2, 3, 1, 0));
        refused(Due.NO, "box(3, 3, 1, 0), DONE", x -> x.box(3, 3, 1, 0));
        refused(Due.BAD, "send(4, 3, 0)", x -> x.send(4, 3, 0));
        refused(Due.BAD, "send(1, 8, 0)", x -> x.send(1, 8, 0));
        refused(Due.BAD, "send(1, 6, 100)", x -> x.send(1, 6, 100));
        refused(Due.BAD, "send(1, 6, -1)", x -> x.send(1, 6, -1));
        refused(Due.KIND, "send(1, 2, 0)", x -> x.send(1, 2, 0));
        refused(Due.NO, "send(0, 6, 0), TAKEN", x -> x.send(0, 6, 0));
        refused(Due.NO, "send(2, 3, 0), GIVEN ON", x -> x.send(2, 3, 0));
        refused(Due.BAD, "boxTold(4, 0)", x -> x.boxTold(4, 0));
        refused(Due.BAD, "boxTold(0, 5)", x -> x.boxTold(0, 5));
    }

    private static void permits() {
        refused(Due.BAD, "quota(7, 1)", x -> x.quota(7, 1));
        refused(Due.BAD, "quota(3, 10)", x -> x.quota(3, 10));
        refused(Due.BAD, "quota(3, -1)", x -> x.quota(3, -1));
        refused(Due.BAD, "wish(1000, 0)", x -> x.wish(1000, 0));
        refused(Due.BAD, "wish(3, 10)", x -> x.wish(3, 10));
        refused(Due.BAD, "granted(3)", x -> x.granted(3));
        refused(Due.BAD, "would(10)", x -> x.would(10));
        refused(Due.BAD, "cost(100)", x -> x.cost(100));
        refused(Due.BAD, "cost(-1)", x -> x.cost(-1));
        refused(Due.BAD, "plan(41, 1, 0)", x -> x.plan(41, 1, 0));
        refused(Due.BAD, "ride(3, 3, 5)", x -> x.ride(3, 3, 5));
        refused(Due.BAD, "ride(3, 8, 5)", x -> x.ride(3, 8, 5));
        refused(Due.BAD, "ride(3, 6, 1000)", x -> x.ride(3, 6, 1000));
        refused(Due.BAD, "ride(3, 6, 0)", x -> x.ride(3, 6, 0));
        refused(Due.KIND, "ride(3, 2, 5)", x -> x.ride(3, 2, 5));
        refused(Due.KIND, "ride(5, 3, 5)", x -> x.ride(5, 3, 5));
        refused(Due.BAD, "minutes(3, 8)", x -> x.minutes(3, 8));
        refused(Due.KIND, "minutes(3, 2)", x -> x.minutes(3, 2));
        refused(Due.BAD, "round(2)", x -> x.round(2));
        refused(Due.BAD, "picture(1000, 5)", x -> x.picture(1000, 5));
        refused(Due.BAD, "picture(5, 61)", x -> x.picture(5, 61));
        refused(Due.BAD, "proved(0, 0)", x -> x.proved(0, 0));
        refused(Due.BAD, "proved(1, -1)", x -> x.proved(1, -1));
    }

    private static void sheets() {
        refused(Due.BAD, "sheet(4, 0, 5)", x -> x.sheet(4, 0, 5));
        refused(Due.BAD, "sheet(1, 3, 5)", x -> x.sheet(1, 3, 5));
        refused(Due.BAD, "sheet(1, -2, 5)", x -> x.sheet(1, -2, 5));
        refused(Due.BAD, "sheet(1, 1, 25)", x -> x.sheet(1, 1, 25));
        refused(Due.SIZE, "sheet(1, 1, -1)", x -> x.sheet(1, 1, -1));
        refused(Due.SIZE, "sheet(3, 2, -1)", x -> x.sheet(3, 2, -1));
        refused(Due.BAD, "mark(4, 0, 1)", x -> x.mark(4, 0, 1));
        refused(Due.NOTHING, "mark(3, 0, 1)", x -> x.mark(3, 0, 1));
        refused(Due.INDEX, "mark(1, 24, 1)", x -> x.mark(1, 24, 1));
        refused(Due.INDEX, "mark(0, 3, 1)", x -> x.mark(0, 3, 1));
        refused(Due.INDEX, "mark(0, -1, 1)", x -> x.mark(0, -1, 1));
        refused(Due.INDEX, "mark(2, 0, 1)", x -> x.mark(2, 0, 1));
        refused(Due.BAD, "sum(4, 1)", x -> x.sum(4, 1));
        refused(Due.NOTHING, "sum(3, 1)", x -> x.sum(3, 1));
        refused(Due.BAD, "copy(4, 0, 0, 0, 1)", x -> x.copy(4, 0, 0, 0, 1));
        refused(Due.NOTHING, "copy(0, 0, 3, 0, 1)", x -> x.copy(0, 0, 3, 0, 1));
        refused(Due.NOTHING, "copy(3, 0, 0, 0, 1)", x -> x.copy(3, 0, 0, 0, 1));
        refused(Due.KIND, "copy(1, 0, 0, 0, 1)", x -> x.copy(1, 0, 0, 0, 1));
        refused(Due.INDEX, "copy(1, 23, 1, 0, 2)", x -> x.copy(1, 23, 1, 0, 2));
        refused(Due.INDEX, "copy(1, 0, 1, 23, 2)", x -> x.copy(1, 0, 1, 23, 2));
        refused(Due.INDEX, "copy(0, 0, 0, 1, 3)", x -> x.copy(0, 0, 0, 1, 3));
        refused(Due.INDEX, "copy(0, 1, 0, 0, -1)", x -> x.copy(0, 1, 0, 0, -1));
    }

    private static void rows() {
        refused(Due.BAD, "count(18)", x -> x.count(18));
        refused(Due.BAD, "count(-1)", x -> x.count(-1));
        refusedAs(Due.BAD, "check(0)", x -> x.check(0), x -> x.check(1));
        refusedAs(Due.BAD, "check(31)", x -> x.check(31), x -> x.check(1));
    }

    private static void onlyTold() {
        unchanged("told", x -> x.told(3, 4) + x.told(6, 5));
        unchanged("as", x -> x.as(3, 1));
        unchanged("landAt", x -> x.landAt(40));
        unchanged("burns", x -> x.burns(26));
        unchanged("dry", x -> x.dry(20));
        unchanged("of", x -> x.of(1, 3));
        unchanged("why", x -> x.why(0, 2));
        unchanged("is", x -> x.is(0, 14));
        unchanged("boxTold", x -> x.boxTold(1, 3));
        unchanged("crowd", x -> x.crowd(60));
        unchanged("granted", x -> x.granted(1));
        unchanged("would", x -> x.would(9));
        unchanged("plan", x -> x.plan(7, 9, 2));
        unchanged("minutes", x -> x.minutes(3, 6));
        unchanged("round", x -> x.round(1));
        unchanged("proved", x -> x.proved(9, 3));
        unchanged("sum", x -> x.sum(1, 77));
        unchanged("count", x -> x.count(9));
    }

    private static void fullTables() {
        refused(Due.FULL, "place(0, 300, 0)", x -> x.place(0, 300, 0));
        refused(Due.NO, "place(0, 75, 0)", x -> x.place(0, 75, 0));
        refused(Due.FULL, "fire(1, 2, 0)", x -> x.fire(1, 2, 0));
        refused(Due.FULL, "feed", x -> x.feed(0, 0, 0));
        refusedAs(Due.FULL, "text(0, 0)", x -> textOf(x), x -> x.trim(0));
        refused(Due.FULL, "walker(999, 1, 0, 1, 1)", x -> x.walker(999, 1, 0, 1, 1));
        refused(Due.FULL, "box(0, 0, 1, 0)", x -> x.box(0, 0, 1, 0));
        refused(Due.KIND, "box(0, 15, 1, 0)", x -> x.box(0, 15, 1, 0));
        refused(Due.FULL, "run(1)", x -> x.run(1));
        refused(Due.FULL, "run(60)", x -> x.run(60));
        refused(Due.FULL, "crowd(1)", x -> x.crowd(1));
        refused(Due.FULL, "wish(0, 0)", x -> x.wish(0, 0));
        refused(Due.FULL, "ride(0, 1, 1)", x -> x.ride(0, 1, 1));
        refused(Due.FULL, "picture(0, 0)", x -> x.picture(0, 0));
        refused(Due.FULL, "tell(0)", x -> x.tell(0));
    }

    private static int textOf(LongTrail x) {
        x.trim(12);
        return x.text(0, 0);
    }

    private static void newObject() {
        refused(Due.NO, "back()", x -> x.back());
        refusedAs(Due.NO, "check(1)", x -> x.check(1), x -> 0);
        refusedAs(-100, "text(0, 0)", x -> x.text(0, 0), x -> 0);
        refused(Due.BAD, "told(0, 0)", x -> x.told(0, 0));
        refused(Due.BAD, "is(0, 0)", x -> x.is(0, 0));
        refused(Due.BAD, "box(0, 0, 1, 0)", x -> x.box(0, 0, 1, 0));
        refused(Due.BAD, "shut(0, 0)", x -> x.shut(0, 0));
        refused(Due.BAD, "ride(0, 1, 1)", x -> x.ride(0, 1, 1));
        refused(Due.BAD, "trim(1)", x -> x.trim(1));
        refused(Due.NOTHING, "mark(0, 0, 1)", x -> x.mark(0, 0, 1));
        refused(Due.NOTHING, "copy(0, 0, 0, 0, 0)", x -> x.copy(0, 0, 0, 0, 0));
        refused(Due.SIZE, "sheet(0, 0, -1)", x -> x.sheet(0, 0, -1));
    }
}
