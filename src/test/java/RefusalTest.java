import java.util.ArrayList;
import java.util.List;
import java.util.function.Consumer;
import java.util.function.Function;
import java.util.function.ToIntFunction;

/**
 * "A call that is refused answers one of BAD, NO, FULL, or a FINDING, of several the one that stands first with it, and
 * changes nothing (but the tape and the numbers that wait, where told)." Each refused call of each promise is made on an
 * object that holds something of everything, or that is full; then all that an object can tell, now, on later days and
 * from its image, is compared with a twin that did not get the call. Calls that only tell are tested likewise.
 */
public final class RefusalTest {
    private static Consumer<LongTrail> state;
    private static final List<int[]> dueOfTwin = new ArrayList<>();

    public static void main(String[] args) {
        Due.sentence("A call that is refused .. changes nothing");
        in(Twins::ofEverything);
        trail();
        texts();
        walkers();
        boxes();
        permits();
        sheets();
        rows();
        Due.sentence("(calls that only tell change nothing)");
        onlyTold();
        Due.sentence("A call that is refused .. changes nothing (an object that is full)");
        in(Twins::full);
        fullTables();
        onlyTold();
        Due.sentence("A call that is refused .. changes nothing (a new object)");
        in(x -> { });
        newObject();
        onlyTold();
        Due.end("RefusalTest");
    }

    /** What comes next is called on objects that are made so. */
    private static void in(Consumer<LongTrail> making) {
        state = making;
        dueOfTwin.clear();
        for (Function<LongTrail, int[]> tells : Twins.TELLING) {
            dueOfTwin.add(tells.apply(made()));
        }
    }

    private static LongTrail made() {
        LongTrail x = new LongTrail();
        state.accept(x);
        return x;
    }

    private static void refused(int due, String name, ToIntFunction<LongTrail> call) {
        Due.is(name, call.applyAsInt(made()), due);
        unchanged(name, call);
    }

    private static void unchanged(String name, ToIntFunction<LongTrail> call) {
        for (int i = 0; i < Twins.TELLING.size(); i++) {
            LongTrail x = made();
            call.applyAsInt(x);
            Due.row(name + ", then " + i, Twins.TELLING.get(i).apply(x), dueOfTwin.get(i));
        }
    }

    /** The call may use up the tape or the numbers that wait, as a taken call does. */
    private static void refusedAs(int due, String name, ToIntFunction<LongTrail> call, ToIntFunction<LongTrail> taken) {
        Due.is(name, call.applyAsInt(made()), due);
        for (int i = 0; i < Twins.TELLING.size(); i++) {
            LongTrail x = made();
            call.applyAsInt(x);
            LongTrail twin = made();
            taken.applyAsInt(twin);
            Due.row(name + ", then " + i, Twins.TELLING.get(i).apply(x), Twins.TELLING.get(i).apply(twin));
        }
    }

    private static void trail() {
        refused(Due.BAD, "length(19)", x -> x.length(19));
        refused(Due.BAD, "length(2001)", x -> x.length(2001));
        refused(Due.NO, "length(60)", x -> x.length(60));
        refused(Due.NO, "length(2000)", x -> x.length(2000));
        refused(Due.BAD, "place(-1, 1, 0)", x -> x.place(-1, 1, 0));
        refused(Due.BAD, "place(6, 1, 0)", x -> x.place(6, 1, 0));
        refused(Due.BAD, "place(0, -1, 0)", x -> x.place(0, -1, 0));
        refused(Due.BAD, "place(0, 61, 0)", x -> x.place(0, 61, 0));
        refused(Due.BAD, "place(0, 1, 1)", x -> x.place(0, 1, 1));
        refused(Due.BAD, "place(3, 1, 10)", x -> x.place(3, 1, 10));
        refused(Due.BAD, "place(4, 1, 143)", x -> x.place(4, 1, 143));
        refused(Due.NO, "place(1, 20, 0)", x -> x.place(1, 20, 0));
        refused(Due.BAD, "told(8, 0)", x -> x.told(8, 0));
        refused(Due.BAD, "told(0, 6)", x -> x.told(0, 6));
        refused(Due.BAD, "as(8, 0)", x -> x.as(8, 0));
        refused(Due.KIND, "as(0, 3)", x -> x.as(0, 3));
        refused(Due.BAD, "shut(8, 1)", x -> x.shut(8, 1));
        refused(Due.BAD, "shut(3, 128)", x -> x.shut(3, 128));
        refused(Due.BAD, "shut(6, -1)", x -> x.shut(6, -1));
        refused(Due.KIND, "shut(2, 1)", x -> x.shut(2, 1));
        refused(Due.BAD, "land(0, 5)", x -> x.land(0, 5));
        refused(Due.BAD, "land(4, 5)", x -> x.land(4, 5));
        refused(Due.BAD, "land(1, 61)", x -> x.land(1, 61));
        refused(Due.BAD, "land(3, -1)", x -> x.land(3, -1));
        refused(Due.BAD, "landAt(61)", x -> x.landAt(61));
        refused(Due.BAD, "fire(5, 5, 99)", x -> x.fire(5, 5, 99));
        refused(Due.BAD, "fire(5, 61, 99)", x -> x.fire(5, 61, 99));
        refused(Due.BAD, "fire(-1, 6, 99)", x -> x.fire(-1, 6, 99));
        refused(Due.BAD, "fire(5, 6, 4003)", x -> x.fire(5, 6, 4003));
        refused(Due.BAD, "fire(5, 6, 1000000)", x -> x.fire(5, 6, 1000000));
        refused(Due.BAD, "burns(61)", x -> x.burns(61));
        refused(Due.BAD, "dry(-1)", x -> x.dry(-1));
    }

    private static void texts() {
        refused(Due.BAD, "trim(9)", x -> x.trim(9));
        refused(Due.BAD, "trim(-1)", x -> x.trim(-1));
        refusedAs(Due.BAD, "text(4, 0)", x -> x.text(4, 0), x -> x.trim(0));
        refusedAs(Due.BAD, "text(0, 1000)", x -> x.text(0, 1000), x -> x.trim(0));
        refusedAs(-108, "text of camp m>5?", x -> faulty(x), x -> x.trim(0));
        refused(Due.BAD, "of(4, 0)", x -> x.of(4, 0));
        refused(Due.BAD, "of(0, 4)", x -> x.of(0, 4));
        refused(Due.BAD, "why(4, 0)", x -> x.why(4, 0));
    }

    private static int faulty(LongTrail x) {
        x.feed('?' << 24, 0, 0);
        return x.text(0, 0);
    }

    private static void walkers() {
        refused(Due.BAD, "walker(2, 1, 0, 1, 1)", x -> x.walker(2, 1, 0, 1, 1));
        refused(Due.BAD, "walker(1000, 1, 0, 1, 1)", x -> x.walker(1000, 1, 0, 1, 1));
        refused(Due.BAD, "walker(3, 41, 0, 1, 1)", x -> x.walker(3, 41, 0, 1, 1));
        refused(Due.BAD, "walker(3, 1, 6, 1, 1)", x -> x.walker(3, 1, 6, 1, 1));
        refused(Due.BAD, "walker(3, 1, 0, 21, 1)", x -> x.walker(3, 1, 0, 21, 1));
        refused(Due.BAD, "walker(3, 1, 0, 1, 0)", x -> x.walker(3, 1, 0, 1, 0));
        refused(Due.BAD, "is(5, 0)", x -> x.is(5, 0));
        refused(Due.BAD, "is(0, 15)", x -> x.is(0, 15));
        refused(Due.BAD, "shoes(5)", x -> x.shoes(5));
        refused(Due.NO, "shoes(1), at no TOWN", x -> x.shoes(1));
        refused(Due.NO, "shoes(2), QUIT", x -> x.shoes(2));
        refused(Due.NO, "shoes(3), DONE", x -> x.shoes(3));
        refused(Due.NO, "shoes(4), WAITS", x -> x.shoes(4));
        refused(Due.BAD, "zero(5, 1)", x -> x.zero(5, 1));
        refused(Due.BAD, "zero(0, 10)", x -> x.zero(0, 10));
        refused(Due.NO, "zero(2, 1), QUIT", x -> x.zero(2, 1));
        refused(Due.NO, "zero(3, 1), DONE", x -> x.zero(3, 1));
        refused(Due.NO, "zero(4, 1), WAITS", x -> x.zero(4, 1));
        refused(Due.BAD, "finds(5, 1)", x -> x.finds(5, 1));
        refused(Due.BAD, "finds(0, 0)", x -> x.finds(0, 0));
        refused(Due.BAD, "finds(0, 21)", x -> x.finds(0, 21));
        refused(Due.NO, "finds(2, 1), QUIT", x -> x.finds(2, 1));
        refused(Due.NO, "finds(3, 1), DONE", x -> x.finds(3, 1));
        refused(Due.NO, "finds(4, 1), WAITS", x -> x.finds(4, 1));
        refused(Due.BAD, "run(0)", x -> x.run(0));
        refused(Due.BAD, "run(61)", x -> x.run(61));
        refused(Due.BAD, "crowd(0)", x -> x.crowd(0));
        refused(Due.BAD, "crowd(61)", x -> x.crowd(61));
    }

    private static void boxes() {
        refused(Due.BAD, "box(5, 3, 1, 0)", x -> x.box(5, 3, 1, 0));
        refused(Due.BAD, "box(0, 8, 1, 0)", x -> x.box(0, 8, 1, 0));
        refused(Due.BAD, "box(0, 3, 21, 0)", x -> x.box(0, 3, 21, 0));
        refused(Due.BAD, "box(0, 3, 0, 0)", x -> x.box(0, 3, 0, 0));
        refused(Due.BAD, "box(0, 3, 1, 100)", x -> x.box(0, 3, 1, 100));
        refused(Due.KIND, "box(0, 2, 1, 0)", x -> x.box(0, 2, 1, 0));
        refused(Due.NO, "box(2, 3, 1, 0), QUIT", x -> x.box(2, 3, 1, 0));
        refused(Due.NO, "box(3, 3, 1, 0), DONE", x -> x.box(3, 3, 1, 0));
        refused(Due.BAD, "send(4, 3, 0)", x -> x.send(4, 3, 0));
        refused(Due.BAD, "send(1, 8, 0)", x -> x.send(1, 8, 0));
        refused(Due.BAD, "send(1, 6, 100)", x -> x.send(1, 6, 100));
        refused(Due.BAD, "send(1, 6, -1)", x -> x.send(1, 6, -1));
        refused(Due.KIND, "send(1, 2, 0)", x -> x.send(1, 2, 0));
        refused(Due.NO, "send(0, 6, 0), TAKEN", x -> x.send(0, 6, 0));
        refused(Due.NO, "send(2, 3, 0), GIVEN ON", x -> x.send(2, 3, 0));
        refused(Due.BAD, "boxTold(4, 0)", x -> x.boxTold(4, 0));
        refused(Due.BAD, "boxTold(0, 5)", x -> x.boxTold(0, 5));
    }

    private static void permits() {
        refused(Due.BAD, "quota(7, 1)", x -> x.quota(7, 1));
        refused(Due.BAD, "quota(3, 10)", x -> x.quota(3, 10));
        refused(Due.BAD, "quota(3, -1)", x -> x.quota(3, -1));
        refused(Due.BAD, "wish(1000, 0)", x -> x.wish(1000, 0));
        refused(Due.BAD, "wish(3, 10)", x -> x.wish(3, 10));
        refused(Due.BAD, "granted(3)", x -> x.granted(3));
        refused(Due.BAD, "would(10)", x -> x.would(10));
        refused(Due.BAD, "cost(100)", x -> x.cost(100));
        refused(Due.BAD, "cost(-1)", x -> x.cost(-1));
        refused(Due.BAD, "plan(41, 1, 0)", x -> x.plan(41, 1, 0));
        refused(Due.BAD, "ride(3, 3, 5)", x -> x.ride(3, 3, 5));
        refused(Due.BAD, "ride(3, 8, 5)", x -> x.ride(3, 8, 5));
        refused(Due.BAD, "ride(3, 6, 1000)", x -> x.ride(3, 6, 1000));
        refused(Due.BAD, "ride(3, 6, 0)", x -> x.ride(3, 6, 0));
        refused(Due.KIND, "ride(3, 2, 5)", x -> x.ride(3, 2, 5));
        refused(Due.KIND, "ride(5, 3, 5)", x -> x.ride(5, 3, 5));
        refused(Due.BAD, "minutes(3, 8)", x -> x.minutes(3, 8));
        refused(Due.KIND, "minutes(3, 2)", x -> x.minutes(3, 2));
        refused(Due.BAD, "round(2)", x -> x.round(2));
        refused(Due.BAD, "picture(1000, 5)", x -> x.picture(1000, 5));
        refused(Due.BAD, "picture(5, 61)", x -> x.picture(5, 61));
        refused(Due.BAD, "proved(0, 0)", x -> x.proved(0, 0));
        refused(Due.BAD, "proved(1, -1)", x -> x.proved(1, -1));
    }

    private static void sheets() {
        refused(Due.BAD, "sheet(4, 0, 5)", x -> x.sheet(4, 0, 5));
        refused(Due.BAD, "sheet(1, 3, 5)", x -> x.sheet(1, 3, 5));
        refused(Due.BAD, "sheet(1, -2, 5)", x -> x.sheet(1, -2, 5));
        refused(Due.BAD, "sheet(1, 1, 25)", x -> x.sheet(1, 1, 25));
        refused(Due.SIZE, "sheet(1, 1, -1)", x -> x.sheet(1, 1, -1));
        refused(Due.SIZE, "sheet(3, 2, -1)", x -> x.sheet(3, 2, -1));
        refused(Due.BAD, "mark(4, 0, 1)", x -> x.mark(4, 0, 1));
        refused(Due.NOTHING, "mark(3, 0, 1)", x -> x.mark(3, 0, 1));
        refused(Due.INDEX, "mark(1, 24, 1)", x -> x.mark(1, 24, 1));
        refused(Due.INDEX, "mark(0, 3, 1)", x -> x.mark(0, 3, 1));
        refused(Due.INDEX, "mark(0, -1, 1)", x -> x.mark(0, -1, 1));
        refused(Due.INDEX, "mark(2, 0, 1)", x -> x.mark(2, 0, 1));
        refused(Due.BAD, "sum(4, 1)", x -> x.sum(4, 1));
        refused(Due.NOTHING, "sum(3, 1)", x -> x.sum(3, 1));
        refused(Due.BAD, "copy(4, 0, 0, 0, 1)", x -> x.copy(4, 0, 0, 0, 1));
        refused(Due.NOTHING, "copy(0, 0, 3, 0, 1)", x -> x.copy(0, 0, 3, 0, 1));
        refused(Due.NOTHING, "copy(3, 0, 0, 0, 1)", x -> x.copy(3, 0, 0, 0, 1));
        refused(Due.KIND, "copy(1, 0, 0, 0, 1)", x -> x.copy(1, 0, 0, 0, 1));
        refused(Due.INDEX, "copy(1, 23, 1, 0, 2)", x -> x.copy(1, 23, 1, 0, 2));
        refused(Due.INDEX, "copy(1, 0, 1, 23, 2)", x -> x.copy(1, 0, 1, 23, 2));
        refused(Due.INDEX, "copy(0, 0, 0, 1, 3)", x -> x.copy(0, 0, 0, 1, 3));
        refused(Due.INDEX, "copy(0, 1, 0, 0, -1)", x -> x.copy(0, 1, 0, 0, -1));
    }

    private static void rows() {
        refused(Due.BAD, "count(18)", x -> x.count(18));
        refused(Due.BAD, "count(-1)", x -> x.count(-1));
        refusedAs(Due.BAD, "check(0)", x -> x.check(0), x -> x.check(1));
        refusedAs(Due.BAD, "check(31)", x -> x.check(31), x -> x.check(1));
    }

    private static void onlyTold() {
        unchanged("told", x -> x.told(3, 4) + x.told(6, 5));
        unchanged("as", x -> x.as(3, 1));
        unchanged("landAt", x -> x.landAt(40));
        unchanged("burns", x -> x.burns(26));
        unchanged("dry", x -> x.dry(20));
        unchanged("of", x -> x.of(1, 3));
        unchanged("why", x -> x.why(0, 2));
        unchanged("is", x -> x.is(0, 14));
        unchanged("boxTold", x -> x.boxTold(1, 3));
        unchanged("crowd", x -> x.crowd(60));
        unchanged("granted", x -> x.granted(1));
        unchanged("would", x -> x.would(9));
        unchanged("plan", x -> x.plan(7, 9, 2));
        unchanged("minutes", x -> x.minutes(3, 6));
        unchanged("round", x -> x.round(1));
        unchanged("proved", x -> x.proved(9, 3));
        unchanged("sum", x -> x.sum(1, 77));
        unchanged("count", x -> x.count(9));
    }

    private static void fullTables() {
        refused(Due.FULL, "place(0, 300, 0)", x -> x.place(0, 300, 0));
        refused(Due.NO, "place(0, 75, 0)", x -> x.place(0, 75, 0));
        refused(Due.FULL, "fire(1, 2, 0)", x -> x.fire(1, 2, 0));
        refused(Due.FULL, "feed", x -> x.feed(0, 0, 0));
        refusedAs(Due.FULL, "text(0, 0)", x -> textOf(x), x -> x.trim(0));
        refused(Due.FULL, "walker(999, 1, 0, 1, 1)", x -> x.walker(999, 1, 0, 1, 1));
        refused(Due.FULL, "box(0, 0, 1, 0)", x -> x.box(0, 0, 1, 0));
        refused(Due.KIND, "box(0, 15, 1, 0)", x -> x.box(0, 15, 1, 0));
        refused(Due.FULL, "run(1)", x -> x.run(1));
        refused(Due.FULL, "run(60)", x -> x.run(60));
        refused(Due.FULL, "crowd(1)", x -> x.crowd(1));
        refused(Due.FULL, "wish(0, 0)", x -> x.wish(0, 0));
        refused(Due.FULL, "ride(0, 1, 1)", x -> x.ride(0, 1, 1));
        refused(Due.FULL, "picture(0, 0)", x -> x.picture(0, 0));
        refused(Due.FULL, "tell(0)", x -> x.tell(0));
    }

    private static int textOf(LongTrail x) {
        x.trim(12);
        return x.text(0, 0);
    }

    private static void newObject() {
        refused(Due.NO, "back()", x -> x.back());
        refusedAs(Due.NO, "check(1)", x -> x.check(1), x -> 0);
        refusedAs(-100, "text(0, 0)", x -> x.text(0, 0), x -> 0);
        refused(Due.BAD, "told(0, 0)", x -> x.told(0, 0));
        refused(Due.BAD, "is(0, 0)", x -> x.is(0, 0));
        refused(Due.BAD, "box(0, 0, 1, 0)", x -> x.box(0, 0, 1, 0));
        refused(Due.BAD, "shut(0, 0)", x -> x.shut(0, 0));
        refused(Due.BAD, "ride(0, 1, 1)", x -> x.ride(0, 1, 1));
        refused(Due.BAD, "trim(1)", x -> x.trim(1));
        refused(Due.NOTHING, "mark(0, 0, 1)", x -> x.mark(0, 0, 1));
        refused(Due.NOTHING, "copy(0, 0, 0, 0, 0)", x -> x.copy(0, 0, 0, 0, 0));
        refused(Due.SIZE, "sheet(0, 0, -1)", x -> x.sheet(0, 0, -1));
    }
}
