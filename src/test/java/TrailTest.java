/** Promises 1 to 11: a new object, and the trail. */
public final class TrailTest {
    public static void main(String[] args) {
        newObject();
        length();
        place();
        told();
        as();
        shut();
        land();
        fire();
        burns();
        dry();
        Due.end("TrailTest");
    }

    private static void newObject() {
        LongTrail x = new LongTrail();
        for (int what = 0; what <= 16; what++) {
            Due.is("new: count(" + what + ")", x.count(what), 0);
        }
        Due.is("new: LENGTH", x.count(17), 400);
        Due.all("new: nothing is there", Due.BAD, x.told(0, 0), x.of(0, 0), x.is(0, 0), x.boxTold(0, 0),
                x.granted(0), x.round(0));
        Due.is("new: no image", x.back(), Due.NO);
        Due.is("new: LAND", x.landAt(400), 0);
        Due.is("new: COST", x.cost(10), 10);
        for (int weekday = 0; weekday < 7; weekday++) {
            Due.is("new: QUOTA", x.quota(weekday, 1), 1);
            Due.is("new: WHY", x.why(weekday % 4, weekday % 4), Due.NONE);
        }
        for (int sheet = 0; sheet < 4; sheet++) {
            Due.is("new: SHEETS are MISSING", x.sum(sheet, 1), Due.NOTHING);
        }
        for (int land = 1; land <= 3; land++) {
            Due.is("new: BEGIN", x.land(land, Due.NONE), Due.NONE);
        }
    }

    private static void length() {
        LongTrail x = new LongTrail();
        Due.all("length out of bounds", Due.BAD, x.length(19), x.length(2001), x.length(-1), x.length(Integer.MIN_VALUE));
        Due.is("length(20)", x.length(20), 400);
        Due.is("length(2000)", x.length(2000), 20);
        x.place(0, 100, 0);
        Due.is("a PLACE beyond", x.length(99), Due.NO);
        Due.is("BAD stands ahead of NO", x.length(19), Due.BAD);
        Due.is("a PLACE at the end", x.length(100), 2000);
        x.length(300);
        x.fire(0, 200, 0);
        Due.is("a FIRE beyond", x.length(199), Due.NO);
        Due.is("a FIRE up to the end", x.length(200), 300);
        x.length(300);
        x.picture(0, 250);
        Due.is("a PICTURE beyond", x.length(249), Due.NO);
        Due.is("a PICTURE at the end", x.length(250), 300);
        x.land(1, 250);
        LongTrail y = new LongTrail();
        y.land(1, 250);
        Due.is("a BEGIN does not matter", y.length(100), 400);
        Due.is("BEGIN is kept", y.land(1, 3), 250);
        x.walker(0, 1, 0, 1, 1);
        Due.is("WALKERS", x.length(300), Due.NO);
        Due.is("LENGTH", x.count(17), 250);
    }

    private static void place() {
        LongTrail x = new LongTrail();
        Due.all("place: kind", Due.BAD, x.place(-1, 0, 0), x.place(6, 0, 0));
        Due.all("place: mile", Due.BAD, x.place(0, -1, 0), x.place(0, 401, 0));
        Due.all("place: a of PLACE, WATER", Due.BAD, x.place(0, 0, 1), x.place(0, 0, -1), x.place(1, 0, 1));
        Due.all("place: a of HUT, TOWN, CAMP", Due.BAD, x.place(2, 0, 0), x.place(2, 0, 10), x.place(3, 0, 0),
                x.place(3, 0, 10), x.place(5, 0, 0), x.place(5, 0, 10));
        Due.all("place: a of PASS", Due.BAD, x.place(4, 0, -1), x.place(4, 0, 143));
        Due.is("place: none came", x.count(0), 0);
        Due.row("place", Due.ints(x.place(0, 0, 0), x.place(1, 400, 0), x.place(2, 2, 9), x.place(3, 3, 1),
                x.place(4, 4, 142), x.place(5, 5, 9), x.place(4, 6, 0)), 0, 1, 2, 3, 4, 5, 6);
        Due.is("place: one there", x.place(1, 0, 0), Due.NO);
        Due.is("place: BAD stands ahead of NO", x.place(1, 0, 1), Due.BAD);
        for (int i = 7; i < 16; i++) {
            Due.is("place: next", x.place(0, 100 + i, 0), i);
        }
        Due.is("place: FULL", x.place(0, 50, 0), Due.FULL);
        Due.is("place: NO stands ahead of FULL", x.place(0, 100 + 7, 0), Due.NO);
        Due.is("place: BAD stands ahead of FULL", x.place(0, 50, 1), Due.BAD);
        Due.is("place: count", x.count(0), 16);
    }

    private static void told() {
        LongTrail x = new LongTrail();
        x.place(3, 0, 4);
        x.place(4, 7, 3);
        x.place(3, 9, 2);
        x.shut(0, 5);
        x.walker(0, 9, 0, 5, 9);
        x.walker(0, 1, 0, 5, 9);
        x.walker(5, 1, 0, 5, 9);
        x.box(0, 0, 1, 50);
        x.box(1, 0, 1, 50);
        x.box(2, 2, 1, 0);
        Due.row("told: TOWN", Due.ints(x.told(0, 0), x.told(0, 1), x.told(0, 2), x.told(0, 3), x.told(0, 4),
                x.told(0, 5)), 3, 0, 4, 5, 0, 2);
        Due.row("told: PASS", Due.ints(x.told(1, 0), x.told(1, 1), x.told(1, 2), x.told(1, 3), x.told(1, 4),
                x.told(1, 5)), 4, 7, 3, 0, 0, 0);
        Due.is("told: OPEN BOXES", x.told(2, 5), 1);
        x.run(1);
        Due.is("told: those that WALK, not those that WAIT", x.told(0, 4), 2);
        x.run(4);
        Due.is("told: boxes GIVEN ON are not OPEN", x.told(0, 5), 0);
        Due.is("told: they have gone", x.told(0, 4), 0);
        Due.all("told: BAD", Due.BAD, x.told(-1, 0), x.told(3, 0), x.told(0, -1), x.told(0, 6));
    }

    private static void as() {
        LongTrail x = new LongTrail();
        int[] a = {0, 0, 3, 4, 5, 6};
        boolean[][] under = new boolean[6][6];
        int[][] chains = {{0}, {1, 0}, {2, 1, 0}, {3, 2, 1, 0}, {4, 0}, {5, 1, 0}};
        for (int kind = 0; kind < 6; kind++) {
            x.place(kind, kind * 3, a[kind]);
            for (int above : chains[kind]) {
                under[kind][above] = true;
            }
        }
        for (int place = 0; place < 6; place++) {
            for (int kind = 0; kind < 6; kind++) {
                Due.is("as(" + place + ", " + kind + ")", x.as(place, kind), under[place][kind] ? a[place] : Due.KIND);
            }
        }
        Due.all("as: BAD", Due.BAD, x.as(-1, 0), x.as(6, 0), x.as(0, -1), x.as(0, 6));
    }

    private static void shut() {
        LongTrail x = new LongTrail();
        x.place(3, 1, 1);
        x.place(2, 2, 1);
        Due.is("shut", x.shut(0, 127), 0);
        Due.is("shut", x.shut(0, 3), 127);
        Due.all("shut: BAD", Due.BAD, x.shut(0, -1), x.shut(0, 128), x.shut(2, 0), x.shut(-1, 0), x.shut(1, 128));
        Due.is("shut: KIND", x.shut(1, 1), Due.KIND);
        Due.is("shut: on no day", x.shut(0, 0), 3);
        Due.is("shut", x.shut(0, 3), 0);
        Due.is("shut: as it was", x.told(0, 3), 3);
    }

    private static void land() {
        LongTrail x = new LongTrail();
        Due.all("land: BAD", Due.BAD, x.land(0, 5), x.land(4, 5), x.land(1, -1), x.land(1, 401), x.land(-1, Due.NONE));
        Due.is("land", x.land(1, 100), Due.NONE);
        Due.is("land", x.land(3, 200), Due.NONE);
        Due.is("land", x.land(2, 50), Due.NONE);
        Due.row("landAt", Due.ints(x.landAt(0), x.landAt(49), x.landAt(50), x.landAt(100), x.landAt(199),
                x.landAt(200), x.landAt(400)), 0, 0, 2, 2, 2, 3, 3);
        Due.is("land: none again", x.land(2, Due.NONE), 50);
        Due.row("landAt", Due.ints(x.landAt(99), x.landAt(100), x.landAt(200)), 0, 1, 3);
        Due.is("land: at 0", x.land(3, 0), 200);
        Due.is("landAt", x.landAt(0), 3);
        Due.all("landAt: BAD", Due.BAD, x.landAt(-1), x.landAt(401));
    }

    private static void fire() {
        LongTrail x = new LongTrail();
        Due.all("fire: MILES", Due.BAD, x.fire(-1, 5, 0), x.fire(5, 401, 0), x.fire(5, 5, 0), x.fire(6, 5, 0),
                x.fire(400, 400, 0), x.fire(400, 401, 0));
        Due.all("fire: DAYS", Due.BAD, x.fire(1, 2, -1), x.fire(1, 2, 1000000), x.fire(1, 2, 1000),
                x.fire(1, 2, 999998), x.fire(1, 2, Integer.MIN_VALUE), x.fire(1, 2, Integer.MAX_VALUE));
        Due.row("fire", Due.ints(x.fire(0, 400, 999999), x.fire(399, 400, 1001), x.fire(0, 1, 0), x.fire(3, 4, 2),
                x.fire(3, 4, 1002)), 0, 1, 2, 3, 4);
        Due.is("fires on now", x.count(2), 2);
        x.run(1);
        Due.is("fires on a DAY later", x.count(2), 3);
        x.run(1);
        Due.is("fires on their last DAY", x.count(2), 2);
        x.run(1);
        Due.is("fires behind it", x.count(2), 0);
        Due.is("fire: of days gone", x.fire(3, 4, 1), 5);
        Due.is("fire: FULL", x.fire(3, 4, 2), Due.FULL);
        Due.is("fire: BAD stands ahead of FULL", x.fire(4, 4, 2), Due.BAD);
        Due.is("fires", x.count(1), 6);
    }

    private static void burns() {
        LongTrail late = new LongTrail();
        for (int i = 0; i < 16; i++) {
            late.run(60);
        }
        late.fire(0, 1, 960960);
        late.fire(2, 3, 961999);
        late.fire(4, 5, 959);
        Due.row("burns on DAY 960", Due.ints(late.burns(0), late.burns(2), late.burns(4)), 1, 0, 0);
        late.run(1);
        Due.row("burns on DAY 961", Due.ints(late.burns(0), late.burns(2), late.burns(4)), 0, 1, 0);
        LongTrail x = new LongTrail();
        x.fire(10, 20, 1002);
        x.fire(15, 25, 2002);
        Due.is("burns: not yet", x.burns(10), 0);
        x.run(1);
        Due.row("burns", Due.ints(x.burns(9), x.burns(10), x.burns(19), x.burns(20)), 0, 1, 1, 0);
        x.run(1);
        Due.row("burns", Due.ints(x.burns(20), x.burns(24), x.burns(25)), 1, 1, 0);
        x.run(1);
        Due.is("burns: no more", x.burns(15), 0);
        Due.all("burns: BAD", Due.BAD, x.burns(-1), x.burns(401));
    }

    private static void dry() {
        LongTrail x = new LongTrail();
        Due.is("dry: NONE", x.dry(0), Due.NONE);
        x.place(5, 90, 1);
        x.place(1, 10, 0);
        x.place(4, 20, 0);
        x.place(0, 30, 0);
        x.place(2, 40, 1);
        x.place(3, 60, 1);
        Due.row("dry", Due.ints(x.dry(0), x.dry(9), x.dry(10), x.dry(39), x.dry(40), x.dry(60), x.dry(89)),
                10, 1, 30, 1, 20, 30, 1);
        Due.all("dry: NONE", Due.NONE, x.dry(90), x.dry(400));
        Due.all("dry: BAD", Due.BAD, x.dry(-1), x.dry(401));
    }
}
