/**
 * The boundary cases of "1 THE TRAIL" and of promises 1 to 11. Each method tests one sentence of the document, which
 * it names.
 */
public final class TrailEdgesTest {
    private static final int[] KINDS_A = {0, 0, 1, 1, 0, 1};

    public static void main(String[] args) {
        lengthAtFirst();
        lengthBounds();
        milesOfALength();
        daysAtMost();
        weeks();
        weekdays();
        lastWeeks();
        placesAtMost();
        unlikeMiles();
        kindsThereAre();
        numbersOfKinds();
        kindsUnderOneAnother();
        shutBits();
        landOfAMile();
        landsAtFirst();
        landsThatCanBeTold();
        firesAtMost();
        fireMiles();
        fireDays();
        daysOfAFire();
        milesOfAFire();
        newObject();
        lengthRefused();
        lengthOfFullTables();
        placeRefused();
        toldWhat();
        toldWalkers();
        toldBoxes();
        asRefused();
        shutRefused();
        landAnswers();
        fireRefused();
        dryMiles();
        Due.end("TrailEdgesTest");
    }

    private static void lengthAtFirst() {
        Due.sentence("LENGTH (20 .. 2000; 400 at first)");
        Due.is("count(17)", new LongTrail().count(17), 400);
        Due.is("length", new LongTrail().length(400), 400);
        Due.is("MILE 400", new LongTrail().landAt(400), 0);
        Due.is("MILE 401", new LongTrail().landAt(401), Due.BAD);
    }

    private static void lengthBounds() {
        Due.sentence("LENGTH (20 .. 2000; ..)");
        Due.bounds("length", 20, 2000, v -> new LongTrail().length(v));
        for (int v : new int[] {20, 2000}) {
            LongTrail x = new LongTrail();
            x.length(v);
            Due.is("count(17)", x.count(17), v);
        }
    }

    private static void milesOfALength() {
        Due.sentence("MILES 0 .. LENGTH");
        for (int length : new int[] {20, 21, 400, 1999, 2000}) {
            Due.bounds("place", 0, length, v -> of(length).place(0, v, 0));
            Due.bounds("land", 0, length, v -> of(length).land(1, v));
            Due.bounds("landAt", 0, length, v -> of(length).landAt(v));
            Due.bounds("burns", 0, length, v -> of(length).burns(v));
            Due.bounds("dry", 0, length, v -> of(length).dry(v));
            Due.bounds("fire from", 0, length - 1, v -> of(length).fire(v, length, 0));
            Due.bounds("fire to", 1, length, v -> of(length).fire(0, v, 0));
            Due.bounds("picture", 0, length, v -> of(length).picture(0, v));
        }
    }

    private static LongTrail of(int length) {
        LongTrail x = new LongTrail();
        x.length(length);
        return x;
    }

    private static void daysAtMost() {
        Due.sentence("DAYS are numbered; the one that is open is 0 at first (999 at most)");
        LongTrail x = new LongTrail();
        Due.is("the first DAY", x.count(16), 0);
        Due.is("the next DAY", x.run(1), 1);
        Due.runTo(x, 998);
        Due.is("998 and 2", x.run(2), Due.FULL);
        Due.is("998 and 1", x.run(1), 999);
        Due.is("999 and 1", x.run(1), Due.FULL);
        Due.is("still 999", x.count(16), 999);
    }

    private static void weeks() {
        Due.sentence("WEEK: DAY / 7");
        for (int a = 0; a < 3; a++) {
            LongTrail x = new LongTrail();
            x.place(4, 0, a);
            x.walker(0, 1, 0, 20, 99);
            Due.text(x, 0, 0, "quit 0");
            x.run(7 * a + 6);
            Due.is("SNOW behind DAY " + (7 * a + 5), x.is(0, 1), 0);
            x.run(1);
            Due.is("SNOW on the last DAY of WEEK " + a, x.is(0, 1), 0);
            x.finds(0, 20);
            x.run(1);
            Due.is("no SNOW on the first DAY of the next WEEK", x.is(0, 1), 1);
        }
    }

    private static void lastWeeks() {
        Due.sentence("of a PASS the last WEEK with SNOW, 0 .. 142");
        LongTrail x = new LongTrail();
        Due.runTo(x, 993);
        x.place(4, 10, 141);
        x.place(4, 11, 142);
        x.walker(993, 20, 0, 20, 99);
        x.run(1);
        Due.is("DAY 993 is of WEEK 141", x.is(0, 1), 10);
        x.run(5);
        Due.is("DAYS 994 to 998 are of WEEK 142", x.is(0, 1), 11);
        x.keep();
        tellMiles(x, 11, 13);
        tellMiles(x, 11, 12);
        tellMiles(x, 31, 11);
        Due.is("DAYS 999, 1000 are of WEEK 142, 1001 is not", x.check(3), 0);
    }

    private static void tellMiles(LongTrail x, int miles, int food) {
        x.tell(miles);
        x.tell(food);
    }

    private static void weekdays() {
        Due.sentence("WEEKDAY: its rest by 7");
        for (int weekday = 0; weekday < 7; weekday++) {
            for (int day : new int[] {0, 1, 5, 6, 7, 8, 13, 14, 20, 21}) {
                LongTrail x = new LongTrail();
                Due.runTo(x, day);
                x.place(3, 0, 1);
                x.shut(0, 1 << weekday);
                x.walker(day, 5, 0, 9, 99);
                x.box(0, 0, 1, 0);
                x.run(1);
                Due.is("SHUT on " + weekday + ", DAY " + day, x.boxTold(0, 4), day % 7 == weekday ? 0 : 1);
            }
        }
    }

    private static void placesAtMost() {
        Due.sentence("PLACES, 16 at most, numbered from 0");
        for (int kind = 0; kind < 6; kind++) {
            LongTrail x = new LongTrail();
            Due.is("none", x.count(0), 0);
            Due.is("none", x.told(0, 0), Due.BAD);
            for (int i = 0; i < 16; i++) {
                Due.is("number of the next PLACE", x.place(kind, 3 * i, KINDS_A[kind]), i);
                Due.is("it is there", x.told(i, 1), 3 * i);
                Due.is("no other one is", x.told(i + 1, 1), Due.BAD);
            }
            Due.is("the 17th", x.place(kind, 399, KINDS_A[kind]), Due.FULL);
            Due.is("how many", x.count(0), 16);
            Due.is("it is not there", x.told(16, 0), Due.BAD);
        }
    }

    private static void unlikeMiles() {
        Due.sentence("PLACES .. at unlike MILES");
        for (int kind = 0; kind < 6; kind++) {
            for (int other = 0; other < 6; other++) {
                LongTrail x = new LongTrail();
                x.place(kind, 50, KINDS_A[kind]);
                Due.is("at one MILE", x.place(other, 50, KINDS_A[other]), Due.NO);
                Due.is("the MILE ahead", x.place(other, 49, KINDS_A[other]), 1);
                Due.is("the MILE behind", x.place(other, 51, KINDS_A[other]), 2);
                Due.is("at one MILE again", x.place(other, 51, KINDS_A[other]), Due.NO);
            }
        }
    }

    private static void kindsThereAre() {
        Due.sentence("KINDS: 0 PLACE; 1 WATER, 4 PASS ..; 2 HUT, 5 CAMP ..; 3 TOWN");
        Due.bounds("kind of place", 0, 5, v -> new LongTrail().place(v, 9, v < 0 || v > 5 ? 1 : KINDS_A[v]));
        Due.all("no such KIND", Due.BAD, new LongTrail().place(-1, 9, 0), new LongTrail().place(-1, 9, 1),
                new LongTrail().place(6, 9, 0), new LongTrail().place(6, 9, 1),
                new LongTrail().place(Integer.MIN_VALUE, 9, 0), new LongTrail().place(Integer.MAX_VALUE, 9, 1));
        for (int kind = 0; kind < 6; kind++) {
            LongTrail x = new LongTrail();
            Due.is("place", x.place(kind, 9, KINDS_A[kind]), 0);
            Due.is("its KIND", x.told(0, 0), kind);
        }
    }

    private static void numbersOfKinds() {
        Due.sentence("Each has a number a: of PLACE, WATER 0; of HUT, TOWN, CAMP how many may sleep there, 1 .. 9; of a "
                + "PASS the last WEEK with SNOW, 0 .. 142");
        int[] least = {0, 0, 1, 1, 0, 1};
        int[] most = {0, 0, 9, 9, 142, 9};
        for (int kind = 0; kind < 6; kind++) {
            int of = kind;
            Due.bounds("a of KIND " + kind, least[kind], most[kind], a -> new LongTrail().place(of, 9, a));
            LongTrail x = new LongTrail();
            x.place(kind, 8, least[kind]);
            x.place(kind, 9, most[kind]);
            Due.row("a is told", Due.ints(x.told(0, 2), x.told(1, 2)), least[kind], most[kind]);
        }
    }

    private static void kindsUnderOneAnother() {
        Due.sentence("1 WATER, 4 PASS, under PLACE; 2 HUT, 5 CAMP, under WATER; 3 TOWN, under HUT (all are PLACES)");
        String[] above = {"0", "10", "210", "3210", "40", "510"};
        LongTrail x = new LongTrail();
        int[] a = {0, 0, 4, 5, 6, 7};
        for (int kind = 0; kind < 6; kind++) {
            x.place(kind, kind, a[kind]);
        }
        for (int place = 0; place < 6; place++) {
            for (int kind = 0; kind < 6; kind++) {
                boolean is = above[place].indexOf('0' + kind) >= 0;
                Due.is("as(" + place + ", " + kind + ")", x.as(place, kind), is ? a[place] : Due.KIND);
            }
        }
    }

    private static void shutBits() {
        Due.sentence("A TOWN's POST is SHUT on WEEKDAYS (bits 0 .. 127; 0 at first)");
        LongTrail x = new LongTrail();
        x.place(3, 9, 1);
        Due.is("at first", x.told(0, 3), 0);
        Due.bounds("shut", 0, 127, v -> {
            LongTrail y = new LongTrail();
            y.place(3, 9, 1);
            return y.shut(0, v);
        });
        Due.row("what it was", Due.ints(x.shut(0, 127), x.shut(0, 64), x.shut(0, 1), x.shut(0, 0), x.shut(0, 0)),
                0, 127, 64, 1, 0);
    }

    private static void landOfAMile() {
        Due.sentence("the LAND of a MILE is the one with the greatest number whose BEGIN is not beyond it");
        LongTrail x = new LongTrail();
        x.land(1, 100);
        x.land(2, 200);
        x.land(3, 300);
        Due.row("each from its BEGIN on", Due.ints(x.landAt(0), x.landAt(99), x.landAt(100), x.landAt(101), x.landAt(199),
                x.landAt(200), x.landAt(299), x.landAt(300), x.landAt(400)), 0, 0, 1, 1, 1, 2, 2, 3, 3);
        x.land(3, 150);
        Due.row("the greatest number", Due.ints(x.landAt(149), x.landAt(150), x.landAt(200), x.landAt(400)), 1, 3, 3, 3);
        x.land(1, 150);
        x.land(2, 150);
        Due.row("all at one MILE", Due.ints(x.landAt(149), x.landAt(150)), 0, 3);
        x.land(3, 400);
        Due.row("at the end", Due.ints(x.landAt(399), x.landAt(400)), 2, 3);
        x.land(3, 0);
        Due.row("at the start", Due.ints(x.landAt(0), x.landAt(400)), 3, 3);
    }

    private static void landsAtFirst() {
        Due.sentence("(BEGIN of 0: 0; of others told, NONE at first: it has none)");
        LongTrail x = new LongTrail();
        Due.row("LAND 0 all over", Due.ints(x.landAt(0), x.landAt(1), x.landAt(399), x.landAt(400)), 0, 0, 0, 0);
        Due.row("NONE at first", Due.ints(x.land(1, Due.NONE), x.land(2, Due.NONE), x.land(3, Due.NONE)),
                Due.NONE, Due.NONE, Due.NONE);
        Due.is("told", x.land(2, 0), Due.NONE);
        Due.is("LAND 2", x.landAt(0), 2);
        Due.is("none again", x.land(2, Due.NONE), 0);
        Due.is("LAND 0", x.landAt(400), 0);
    }

    private static void landsThatCanBeTold() {
        Due.sentence("BEGIN of a LAND (1 .. 3) becomes a MILE (NONE: none)");
        Due.bounds("land", 1, 3, v -> new LongTrail().land(v, 7));
        Due.bounds("land, none", 1, 3, v -> new LongTrail().land(v, Due.NONE));
        Due.all("what is near NONE is no MILE", Due.BAD, new LongTrail().land(1, Due.NONE - 1),
                new LongTrail().land(1, Due.NONE + 1), new LongTrail().land(1, Due.BAD));
    }

    private static void firesAtMost() {
        Due.sentence("FIRES, 6 at most, numbered from 0");
        LongTrail x = new LongTrail();
        Due.row("none", Due.ints(x.count(1), x.count(2), x.round(0)), 0, 0, Due.BAD);
        for (int i = 0; i < 6; i++) {
            Due.is("number of the next FIRE", x.fire(i, i + 1, 0), i);
            Due.is("it is there", x.round(i), Due.NONE);
            Due.is("no other one is", x.round(i + 1), Due.BAD);
        }
        Due.is("the 7th", x.fire(50, 60, 0), Due.FULL);
        Due.row("how many", Due.ints(x.count(1), x.count(2), x.burns(50)), 6, 6, 0);
    }

    private static void fireMiles() {
        Due.sentence("from a MILE to a greater one (LENGTH at most)");
        LongTrail x = new LongTrail();
        Due.all("not greater", Due.BAD, x.fire(5, 5, 0), x.fire(5, 4, 0), x.fire(0, 0, 0), x.fire(400, 400, 0),
                x.fire(400, 0, 0));
        Due.all("no MILES", Due.BAD, x.fire(-1, 5, 0), x.fire(399, 401, 0), x.fire(400, 401, 0), x.fire(-2, -1, 0),
                x.fire(Integer.MIN_VALUE, Integer.MAX_VALUE, 0));
        Due.is("none came", x.count(1), 0);
        Due.row("taken", Due.ints(x.fire(0, 1, 0), x.fire(399, 400, 0), x.fire(0, 400, 0)), 0, 1, 2);
    }

    private static void fireDays() {
        Due.sentence("DAYS are told as 1000 times the first one and the last one. BAD: also if an end is not beyond its "
                + "begin (MILES), or ahead of it (DAYS)");
        Due.bounds("days", 0, 999999, v -> new LongTrail().fire(1, 2, v == 0 || v == 999999 ? v : notRising(v)));
        Due.all("an end ahead of its begin", Due.BAD, new LongTrail().fire(1, 2, 1000), new LongTrail().fire(1, 2, 999000),
                new LongTrail().fire(1, 2, 999998), new LongTrail().fire(1, 2, 500499));
        Due.all("an end on its begin or behind it", 0, new LongTrail().fire(1, 2, 1001), new LongTrail().fire(1, 2, 1002),
                new LongTrail().fire(1, 2, 500500), new LongTrail().fire(1, 2, 998999), new LongTrail().fire(1, 2, 999));
    }

    /** Days that are near v, the last one not ahead of the first one; v itself if it is out of bounds. */
    private static int notRising(int v) {
        return v < 0 || v > 999999 ? v : v / 1000 * 1000 + 999;
    }

    private static void daysOfAFire() {
        Due.sentence("on from a DAY to another one (that one, too)");
        LongTrail x = new LongTrail();
        x.fire(10, 20, 2004);
        x.fire(30, 40, 3003);
        int[][] due = {{0, 0, 0}, {0, 0, 0}, {1, 0, 1}, {1, 1, 2}, {1, 0, 1}, {0, 0, 0}};
        for (int day = 0; day < due.length; day++) {
            Due.row("on DAY " + day, Due.ints(x.burns(10), x.burns(30), x.count(2)), due[day]);
            x.run(1);
        }
        LongTrail late = new LongTrail();
        late.fire(1, 2, 999999);
        late.fire(3, 4, 998998);
        Due.runTo(late, 998);
        Due.row("on DAY 998", Due.ints(late.burns(1), late.burns(3)), 0, 1);
        late.run(1);
        Due.row("on DAY 999", Due.ints(late.burns(1), late.burns(3)), 1, 0);
    }

    private static void milesOfAFire() {
        Due.sentence("then the TRAIL is shut from the first MILE on, up to the other one (that one not)");
        LongTrail x = new LongTrail();
        x.fire(0, 1, 0);
        x.fire(10, 20, 0);
        x.fire(20, 21, 0);
        x.fire(30, 40, 0);
        x.fire(35, 45, 0);
        x.fire(399, 400, 0);
        Due.row("one MILE", Due.ints(x.burns(0), x.burns(1)), 1, 0);
        Due.row("up to the next one", Due.ints(x.burns(9), x.burns(10), x.burns(19), x.burns(20), x.burns(21)), 0, 1, 1, 1, 0);
        Due.row("two", Due.ints(x.burns(29), x.burns(30), x.burns(39), x.burns(40), x.burns(44), x.burns(45)),
                0, 1, 1, 1, 1, 0);
        Due.row("at the end", Due.ints(x.burns(398), x.burns(399), x.burns(400)), 0, 1, 0);
    }

    private static void newObject() {
        Due.sentence("As told; no PLACES, nobody.");
        LongTrail x = new LongTrail();
        for (int what = 0; what < 17; what++) {
            Due.is("count(" + what + ")", x.count(what), 0);
        }
        Due.all("nothing is numbered 0", Due.BAD, x.told(0, 0), x.as(0, 0), x.shut(0, 0), x.of(0, 0), x.is(0, 0),
                x.shoes(0), x.zero(0, 0), x.finds(0, 1), x.box(0, 0, 1, 0), x.send(0, 0, 0), x.boxTold(0, 0),
                x.granted(0), x.ride(0, 1, 1), x.minutes(0, 0), x.round(0));
        Due.row("no image, no pictures, nobody", Due.ints(x.back(), x.proved(1, 0), x.crowd(1), x.would(9), x.dry(0)),
                Due.NO, 0, 0, 0, Due.NONE);
        Due.row("COST, QUOTA, SHEETS", Due.ints(x.cost(0), x.quota(0, 0), x.quota(6, 0), x.sum(0, 1), x.sum(3, 1)),
                10, 1, 1, Due.NOTHING, Due.NOTHING);
    }

    private static void lengthRefused() {
        Due.sentence("BAD; NO: a PLACE, FIRE or PICTURE lies beyond it, or there are WALKERS.");
        LongTrail place = new LongTrail();
        place.place(0, 100, 0);
        place.place(0, 50, 0);
        Due.row("a PLACE", Due.ints(place.length(99), place.length(100), place.length(99), place.length(2000)),
                Due.NO, 400, Due.NO, 100);
        LongTrail fire = new LongTrail();
        fire.fire(10, 100, 0);
        fire.fire(20, 30, 0);
        Due.row("a FIRE", Due.ints(fire.length(99), fire.length(100), fire.length(20)), Due.NO, 400, Due.NO);
        LongTrail picture = new LongTrail();
        picture.picture(0, 100);
        picture.picture(0, 50);
        Due.row("a PICTURE", Due.ints(picture.length(99), picture.length(100), picture.length(20)), Due.NO, 400, Due.NO);
        LongTrail walker = new LongTrail();
        walker.length(20);
        walker.walker(1, 20, 0, 1, 1);
        Due.all("one that WAITS", Due.NO, walker.length(20), walker.length(2000));
        walker.run(1);
        Due.all("BAD stands first", Due.BAD, walker.length(19), walker.length(2001), place.length(19), fire.length(19),
                picture.length(19));
        walker.run(1);
        Due.row("one that is DONE", Due.ints(walker.is(0, 0), walker.length(21), walker.count(17)), 3, Due.NO, 20);
        LongTrail land = new LongTrail();
        land.land(1, 400);
        Due.row("a LAND may begin beyond it", Due.ints(land.length(20), land.landAt(20), land.length(400), land.landAt(400)),
                400, 0, 20, 1);
    }

    private static void lengthOfFullTables() {
        Due.sentence("NO: a PLACE, FIRE or PICTURE lies beyond it (the last one of a full table)");
        LongTrail x = new LongTrail();
        for (int i = 0; i < 16; i++) {
            x.place(0, 100 + i, 0);
        }
        Due.row("16 PLACES", Due.ints(x.length(114), x.length(115), x.length(2000)), Due.NO, 400, 115);
        for (int i = 0; i < 6; i++) {
            x.fire(1, 200 + i, 0);
        }
        Due.row("6 FIRES", Due.ints(x.length(204), x.length(205), x.length(2000)), Due.NO, 2000, 205);
        for (int i = 0; i < 20; i++) {
            x.picture(0, 300 + i);
        }
        Due.row("20 PICTURES", Due.ints(x.length(318), x.length(319), x.length(2000)), Due.NO, 2000, 319);
    }

    private static void placeRefused() {
        Due.sentence("BAD (also an a that its KIND can't have: of PLACE, WATER all but 0); NO: there is one at that MILE; "
                + "FULL.");
        LongTrail x = new LongTrail();
        x.place(1, 9, 0);
        Due.all("BAD stands ahead of NO", Due.BAD, x.place(0, 9, 1), x.place(1, 9, -1), x.place(6, 9, 0), x.place(2, 9, 0),
                x.place(4, 9, 143));
        for (int i = 1; i < 16; i++) {
            x.place(0, 100 + i, 0);
        }
        Due.all("NO stands ahead of FULL", Due.NO, x.place(0, 9, 0), x.place(3, 101, 1), x.place(4, 115, 0));
        Due.all("BAD stands ahead of FULL", Due.BAD, x.place(0, 401, 0), x.place(0, -1, 0), x.place(0, 300, 1),
                x.place(-1, 300, 0), x.place(3, 300, 10));
        Due.all("FULL", Due.FULL, x.place(0, 300, 0), x.place(3, 8, 9));
    }

    private static void toldWhat() {
        Due.sentence("Of a PLACE: what 0 KIND, 1 MILE, 2 a, 3 SHUT (0 of others), 4 .., 5 .. BAD.");
        LongTrail x = new LongTrail();
        x.place(3, 10, 9);
        x.place(2, 400, 8);
        x.shut(0, 127);
        Due.row("a TOWN", Due.ints(x.told(0, 0), x.told(0, 1), x.told(0, 2), x.told(0, 3)), 3, 10, 9, 127);
        Due.row("a HUT", Due.ints(x.told(1, 0), x.told(1, 1), x.told(1, 2), x.told(1, 3)), 2, 400, 8, 0);
        Due.bounds("what", 0, 5, v -> x.told(1, v));
        Due.bounds("place", 0, 1, v -> x.told(v, 0));
    }

    private static void toldWalkers() {
        Due.sentence("4 WALKERS that WALK at its MILE");
        LongTrail x = new LongTrail();
        x.length(20);
        x.place(0, 0, 0);
        x.place(4, 10, 0);
        x.place(3, 20, 1);
        x.walker(0, 1, 0, 9, 9);
        x.walker(1, 1, 0, 9, 9);
        Due.is("those that WAIT do not count", x.told(0, 4), 0);
        x.run(1);
        Due.row("gone, and WAITING", Due.ints(x.told(0, 4), x.told(1, 4)), 0, 0);
        x.run(1);
        x.walker(2, 20, 0, 9, 9);
        x.walker(2, 20, 0, 9, 9);
        x.run(1);
        Due.row("two at the PASS", Due.ints(x.told(0, 4), x.told(1, 4), x.told(2, 4)), 0, 2, 0);
        x.zero(2, 9);
        x.run(5);
        Due.row("those that are DONE do not count", Due.ints(x.is(3, 0), x.is(3, 1), x.told(1, 4), x.told(2, 4)), 3, 20, 1, 0);
        LongTrail y = new LongTrail();
        y.place(0, 0, 0);
        y.place(4, 0, 0);
        y.fire(0, 1, 9);
        y.walker(0, 1, 0, 1, 9);
        y.run(3);
        Due.row("it WALKS at MILE 0", Due.ints(y.is(0, 0), y.told(0, 4)), 1, 1);
        y.run(1);
        Due.row("it QUIT", Due.ints(y.is(0, 0), y.told(0, 4)), 2, 0);
    }

    private static void toldBoxes() {
        Due.sentence("5 OPEN BOXES there");
        LongTrail x = new LongTrail();
        x.place(3, 0, 1);
        x.place(3, 50, 1);
        x.walker(0, 10, 0, 9, 9);
        x.walker(5, 10, 0, 9, 9);
        Due.is("none", x.told(0, 5), 0);
        x.box(0, 0, 1, 0);
        x.box(0, 0, 1, 99);
        x.box(1, 0, 1, 0);
        x.box(1, 1, 1, 0);
        Due.row("of all WALKERS", Due.ints(x.told(0, 5), x.told(1, 5)), 3, 1);
        x.run(1);
        Due.row("TAKEN ones do not count", Due.ints(x.boxTold(0, 4), x.told(0, 5)), 1, 2);
        x.send(1, 1, 9);
        Due.row("sent on", Due.ints(x.told(0, 5), x.told(1, 5)), 1, 2);
        Due.text(x, 0, 0, "quit 1");
        x.run(1);
        Due.row("GIVEN ON ones do not count", Due.ints(x.boxTold(1, 4), x.told(0, 5), x.told(1, 5)), 2, 1, 1);
    }

    private static void asRefused() {
        Due.sentence("BAD: place, kind; KIND: it is not of that KIND, nor of one under it.");
        LongTrail x = new LongTrail();
        x.place(0, 1, 0);
        x.place(3, 2, 7);
        Due.bounds("place", 0, 1, v -> x.as(v, 0));
        Due.bounds("kind of a PLACE", 0, 5, v -> x.as(0, v));
        Due.bounds("kind of a TOWN", 0, 5, v -> x.as(1, v));
        Due.row("a PLACE as any KIND", Due.ints(x.as(0, 0), x.as(0, 1), x.as(0, 5)), 0, Due.KIND, Due.KIND);
    }

    private static void shutRefused() {
        Due.sentence("SHUT of a TOWN becomes v: what it was. BAD; KIND: no TOWN.");
        LongTrail x = new LongTrail();
        for (int kind = 0; kind < 6; kind++) {
            x.place(kind, kind, KINDS_A[kind]);
        }
        for (int kind = 0; kind < 6; kind++) {
            Due.is("shut of KIND " + kind, x.shut(kind, 1), kind == 3 ? 0 : Due.KIND);
            Due.is("SHUT then", x.told(kind, 3), kind == 3 ? 1 : 0);
            Due.all("BAD stands first", Due.BAD, x.shut(kind, -1), x.shut(kind, 128));
        }
        Due.all("no PLACE", Due.BAD, x.shut(-1, 0), x.shut(6, 0));
    }

    private static void landAnswers() {
        Due.sentence("BEGIN of a LAND .. becomes a MILE ..: what it was (NONE). BAD.");
        LongTrail x = new LongTrail();
        for (int land = 1; land <= 3; land++) {
            Due.row("what it was", Due.ints(x.land(land, 400), x.land(land, 0), x.land(land, Due.NONE), x.land(land, 3)),
                    Due.NONE, 400, 0, Due.NONE);
            Due.all("refused", Due.BAD, x.land(land, 401), x.land(land, -1), x.land(0, 9), x.land(4, 9),
                    x.land(0, Due.NONE), x.land(4, Due.NONE));
            Due.is("as it was", x.land(land, Due.NONE), 3);
        }
    }

    private static void fireRefused() {
        Due.sentence("One more FIRE: its number. .. BAD: also ..; FULL.");
        LongTrail x = new LongTrail();
        for (int i = 0; i < 6; i++) {
            x.fire(1, 2, 0);
        }
        Due.all("BAD stands ahead of FULL", Due.BAD, x.fire(2, 2, 0), x.fire(-1, 2, 0), x.fire(1, 401, 0),
                x.fire(1, 2, 1000), x.fire(1, 2, -1), x.fire(1, 2, 1000000));
        Due.all("FULL", Due.FULL, x.fire(1, 2, 0), x.fire(0, 400, 999999));
    }

    private static void dryMiles() {
        Due.sentence("MILES from a MILE to the next WATER (HUTS, TOWNS, CAMPS, too) beyond it. BAD; NONE.");
        for (int kind = 0; kind < 6; kind++) {
            LongTrail x = new LongTrail();
            x.place(kind, 10, KINDS_A[kind]);
            boolean water = kind != 0 && kind != 4;
            Due.row("ahead of it, at it, behind it", Due.ints(x.dry(0), x.dry(9), x.dry(10), x.dry(11)),
                    water ? 10 : Due.NONE, water ? 1 : Due.NONE, Due.NONE, Due.NONE);
        }
        LongTrail y = new LongTrail();
        y.place(1, 400, 0);
        y.place(1, 0, 0);
        y.place(5, 200, 1);
        y.place(2, 300, 1);
        Due.row("the next one", Due.ints(y.dry(0), y.dry(199), y.dry(200), y.dry(299), y.dry(300), y.dry(399), y.dry(400)),
                200, 1, 100, 1, 100, 1, Due.NONE);
    }
}
