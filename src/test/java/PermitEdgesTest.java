/**
 * The boundary cases of "4 PERMITS" and of promises 27 to 37. Each method tests one sentence of the document, which it
 * names.
 */
public final class PermitEdgesTest {
    public static void main(String[] args) {
        quotaBounds();
        quotaAtFirst();
        wishesAtMost();
        wishBounds();
        wishRefused();
        wishesByDraw();
        drawOfLandNothing();
        drawNames();
        firstFreeDay();
        asLateAsWillDo();
        fewerThanQuota();
        quotaOfTheWeekday();
        grantedBounds();
        wouldBounds();
        wouldOnly();
        costBounds();
        legs();
        daysUp();
        notMoreThanCarry();
        weightAndCost();
        fewestBoxes();
        leastAsBits();
        townsByMiles();
        townsAtTheEnds();
        planBounds();
        planNone();
        ridesAtMost();
        rideBounds();
        rideRefused();
        bothWays();
        leastTogether();
        minutesRefused();
        roundTowns();
        roundNone();
        picturesAtMost();
        pictureBounds();
        daysRise();
        milesDoNotFall();
        milesADay();
        mostPictures();
        mostMiles();
        firstByNumbers();
        provedBounds();
        provedWhat();
        Due.end("PermitEdgesTest");
    }

    private static int[] grants(LongTrail x) {
        int[] got = new int[x.count(11)];
        for (int i = 0; i < got.length; i++) {
            got[i] = x.granted(i);
        }
        return got;
    }

    private static void quotaBounds() {
        Due.sentence("QUOTA of a WEEKDAY 0 .. 9");
        Due.bounds("v", 0, 9, v -> new LongTrail().quota(3, v));
        Due.bounds("weekday", 0, 6, v -> new LongTrail().quota(v, 3));
        LongTrail x = new LongTrail();
        Due.row("what it was", Due.ints(x.quota(6, 9), x.quota(6, 0), x.quota(6, 10), x.quota(6, -1), x.quota(6, 5)),
                1, 9, Due.BAD, Due.BAD, 0);
    }

    private static void quotaAtFirst() {
        Due.sentence("(1 at first)");
        LongTrail x = new LongTrail();
        for (int weekday = 0; weekday < 7; weekday++) {
            Due.is("QUOTA of " + weekday, x.quota(weekday, 2 + weekday), 1);
        }
        for (int weekday = 0; weekday < 7; weekday++) {
            Due.is("each by itself", x.quota(weekday, 0), 2 + weekday);
        }
    }

    private static void wishesAtMost() {
        Due.sentence("WISHES, 16 at most, numbered from 0");
        LongTrail x = new LongTrail();
        Due.row("none", Due.ints(x.count(11), x.granted(0)), 0, Due.BAD);
        for (int i = 0; i < 16; i++) {
            Due.is("number of the next WISH", x.wish(i * 60, 0), i);
            Due.row("it is there, no other one is", Due.ints(x.granted(i), x.granted(i + 1)), i * 60, Due.BAD);
        }
        Due.row("the 17th", Due.ints(x.wish(1, 0), x.count(11), x.granted(16)), Due.FULL, 16, Due.BAD);
    }

    private static void wishBounds() {
        Due.sentence("a DAY and how many days later will do (0 .. 9) .. One more WISH for a DAY (0 .. 999)");
        Due.bounds("day", 0, 999, v -> new LongTrail().wish(v, 0));
        Due.bounds("later", 0, 9, v -> new LongTrail().wish(0, v));
        LongTrail x = new LongTrail();
        x.run(20);
        Due.row("a DAY that is gone", Due.ints(x.wish(0, 0), x.granted(0)), 0, 0);
    }

    private static void wishRefused() {
        Due.sentence("(wish) BAD; FULL.");
        LongTrail x = new LongTrail();
        for (int i = 0; i < 16; i++) {
            x.wish(i, 9);
        }
        Due.all("BAD stands first", Due.BAD, x.wish(-1, 0), x.wish(1000, 0), x.wish(0, -1), x.wish(0, 10));
        Due.all("FULL", Due.FULL, x.wish(0, 0), x.wish(999, 9));
    }

    private static void wishesByDraw() {
        Due.sentence("wishes by E of draw .., the greater first, of like ones the lesser number");
        LongTrail x = new LongTrail();
        x.wish(5, 0);
        x.wish(4, 1);
        x.wish(4, 1);
        Due.row("like ones by numbers", grants(x), 5, 4, Due.NONE);
        Due.text(x, 0, 0, "draw 5-d");
        Due.row("the greater first", grants(x), Due.NONE, 4, 5);
        Due.text(x, 0, 0, "draw d-5");
        Due.row("0 is ahead of -1", grants(x), 5, 4, Due.NONE);
        Due.text(x, 0, 0, "draw (d=5)*8192*8192*32");
        Due.row("0 is ahead of the least int", grants(x), Due.NONE, 4, 5);
        Due.text(x, 0, 0, "draw (d=5)*(8192*8192*32-1)-(d=4)*2");
        Due.row("the greatest int is ahead of -2", grants(x), 5, 4, Due.NONE);
        Due.text(x, 0, 0, "draw 7");
        Due.row("like ones by numbers", grants(x), 5, 4, Due.NONE);
    }

    private static void drawOfLandNothing() {
        Due.sentence("by E of draw of LAND 0 (of the TEXT in force on the open DAY)");
        LongTrail x = new LongTrail();
        x.land(1, 0);
        x.wish(5, 0);
        x.wish(4, 1);
        x.wish(4, 1);
        Due.text(x, 1, 0, "draw 0-d");
        Due.text(x, 0, 3, "draw 0-d");
        Due.text(x, 0, 4, "draw d");
        x.run(2);
        Due.row("none in force on DAY 2", grants(x), 5, 4, Due.NONE);
        x.run(1);
        Due.row("one on DAY 3", grants(x), Due.NONE, 4, 5);
        x.run(1);
        Due.row("another one on DAY 4", grants(x), 5, 4, Due.NONE);
    }

    private static void drawNames() {
        Due.sentence("of draw d the DAY that is wished, p how many there are in it .. p: how many wishes there are of that DAY.");
        LongTrail x = new LongTrail();
        x.wish(5, 0);
        x.wish(4, 1);
        x.wish(4, 1);
        String[] texts = {"draw d=4", "draw d=5", "draw p=2", "draw p=1", "draw p=3", "draw p"};
        int[] first = {Due.NONE, 5, Due.NONE, 5, 5, Due.NONE};
        for (int i = 0; i < texts.length; i++) {
            Due.is(texts[i], Due.text(x, 0, 0, texts[i]), i);
            Due.is(texts[i] + ": DAY 5 is given to", x.granted(0), first[i]);
        }
        LongTrail y = new LongTrail();
        y.wish(4, 1);
        y.wish(4, 1);
        y.wish(5, 0);
        Due.text(y, 0, 0, "draw p=1");
        Due.row("the one of its DAY alone is first", grants(y), 4, Due.NONE, 5);
    }

    private static void firstFreeDay() {
        Due.sentence("each gets the first DAY from the wished one on");
        LongTrail x = new LongTrail();
        for (int i = 0; i < 11; i++) {
            x.wish(20, 9);
        }
        Due.row("ten DAYS, one each", grants(x), 20, 21, 22, 23, 24, 25, 26, 27, 28, 29, Due.NONE);
        x.wish(19, 0);
        Due.is("DAYS ahead of it stay free", x.granted(11), 19);
    }

    private static void asLateAsWillDo() {
        Due.sentence("as late as will do (above 999, too)");
        for (int later : new int[] {0, 1, 8, 9}) {
            LongTrail x = new LongTrail();
            for (int i = 0; i <= later; i++) {
                x.wish(100 + i, 0);
            }
            x.wish(100, later);
            Due.is("all are given to others, " + later, x.granted(later + 1), Due.NONE);
            LongTrail y = new LongTrail();
            for (int i = 0; i < later; i++) {
                y.wish(100 + i, 0);
            }
            y.wish(100, later);
            Due.is("the last one will do, " + later, y.granted(later), 100 + later);
        }
        LongTrail late = new LongTrail();
        for (int i = 0; i < 11; i++) {
            late.wish(999, 9);
        }
        Due.row("above 999", grants(late), 999, 1000, 1001, 1002, 1003, 1004, 1005, 1006, 1007, 1008, Due.NONE);
    }

    private static void fewerThanQuota() {
        Due.sentence("on which fewer than QUOTA got one; or none");
        for (int quota : new int[] {0, 1, 2, 9}) {
            LongTrail x = new LongTrail();
            x.quota(0, quota);
            for (int i = 0; i < 11; i++) {
                x.wish(7, 0);
            }
            for (int i = 0; i < 11; i++) {
                Due.is("QUOTA " + quota + ", WISH " + i, x.granted(i), i < quota ? 7 : Due.NONE);
            }
        }
    }

    private static void quotaOfTheWeekday() {
        Due.sentence("QUOTA of a WEEKDAY (that of the DAY which is given)");
        LongTrail x = new LongTrail();
        for (int weekday = 0; weekday < 7; weekday++) {
            x.quota(weekday, 0);
        }
        x.quota(1000 % 7, 2);
        x.wish(993, 6);
        x.wish(993, 7);
        x.wish(999, 1);
        x.wish(1, 9);
        Due.row("DAYS 993 and 1000 alone", grants(x), 993, 993, 1000, 6);
    }

    private static void grantedBounds() {
        Due.sentence("The DAY that a WISH gets by THE GRANT (NONE). BAD.");
        LongTrail x = new LongTrail();
        x.wish(3, 0);
        x.wish(3, 0);
        Due.bounds("wish", 0, 1, v -> x.granted(v));
        Due.row("one, none", grants(x), 3, Due.NONE);
    }

    private static void wouldBounds() {
        Due.sentence("How many WISHES would get one, if each QUOTA were q (0 .. 9). BAD.");
        Due.bounds("q", 0, 9, v -> new LongTrail().would(v));
        LongTrail x = new LongTrail();
        Due.row("no WISHES", Due.ints(x.would(0), x.would(9)), 0, 0);
        for (int i = 0; i < 16; i++) {
            x.wish(3, 1);
        }
        for (int q = 0; q <= 9; q++) {
            Due.is("16 WISHES, two DAYS, q " + q, x.would(q), Math.min(16, 2 * q));
        }
    }

    private static void wouldOnly() {
        Due.sentence("(would) if each QUOTA were q (it is not)");
        LongTrail x = new LongTrail();
        x.quota(3, 0);
        x.quota(4, 2);
        x.wish(3, 1);
        x.wish(3, 1);
        x.wish(3, 1);
        int[] before = grants(x);
        Due.row("0, 1, 9", Due.ints(x.would(0), x.would(1), x.would(9)), 0, 2, 3);
        Due.row("as it was", grants(x), before);
        Due.row("as it was", Due.ints(x.quota(3, 1), x.quota(4, 1)), 0, 2);
    }

    private static void costBounds() {
        Due.sentence("COST (0 .. 99; 10 at first)");
        Due.is("at first", new LongTrail().cost(5), 10);
        Due.bounds("cost", 0, 99, v -> new LongTrail().cost(v));
        LongTrail x = new LongTrail();
        Due.row("what it was", Due.ints(x.cost(99), x.cost(0), x.cost(100), x.cost(-1), x.cost(10)),
                10, 99, Due.BAD, Due.BAD, 0);
    }

    private static int[] plan(LongTrail x, int pace, int carry) {
        return Due.ints(x.plan(pace, carry, 0), x.plan(pace, carry, 1), x.plan(pace, carry, 2));
    }

    private static void legs() {
        Due.sentence("LEGS: from MILE 0 to the first of them, to the next one, and so on, to LENGTH");
        LongTrail x = new LongTrail();
        x.length(100);
        x.cost(0);
        Due.row("without TOWNS", plan(x, 10, 20), 100, 0, 0);
        x.place(3, 30, 1);
        Due.row("one TOWN", plan(x, 10, 20), 9 + 49, 1, 1);
        x.place(3, 60, 1);
        Due.row("two TOWNS", plan(x, 10, 20), 9 + 9 + 16, 2, 3);
    }

    private static void daysUp() {
        Due.sentence("DAYS of a LEG: MILES by PACE, up");
        int[] lengths = {39, 40, 41};
        int[] due = {16, 16, 25};
        for (int i = 0; i < 3; i++) {
            LongTrail x = new LongTrail();
            x.length(lengths[i]);
            Due.is("MILES " + lengths[i] + " by 10", x.plan(10, 20, 0), due[i]);
        }
        LongTrail y = new LongTrail();
        y.length(20);
        Due.row("by 1, 19, 20, 21, 40", Due.ints(y.plan(1, 20, 0), y.plan(19, 20, 0), y.plan(20, 20, 0), y.plan(21, 20, 0),
                y.plan(40, 20, 0)), 400, 4, 1, 1, 1);
    }

    private static void notMoreThanCarry() {
        Due.sentence("none of more than CARRY");
        LongTrail x = new LongTrail();
        x.length(100);
        Due.row("10 DAYS", Due.ints(x.plan(10, 9, 0), x.plan(10, 10, 0), x.plan(10, 11, 0)), Due.NONE, 100, 100);
        x.place(3, 41, 1);
        x.cost(99);
        Due.row("LEGS of 5 and 6 DAYS", plan(x, 10, 6), 25 + 36 + 99, 1, 1);
        Due.row("too long", plan(x, 10, 5), Due.NONE, Due.NONE, Due.NONE);
        LongTrail first = new LongTrail();
        first.length(20);
        first.place(3, 2, 1);
        Due.row("the last LEG", Due.ints(first.plan(1, 18, 0), first.plan(1, 17, 0)), 4 + 324 + 10, Due.NONE);
        LongTrail last = new LongTrail();
        last.length(20);
        last.place(3, 18, 1);
        Due.row("the first LEG", Due.ints(last.plan(1, 18, 0), last.plan(1, 17, 0)), 4 + 324 + 10, Due.NONE);
    }

    private static void weightAndCost() {
        Due.sentence("WEIGHT: squares of DAYS of all LEGS, and COST .. for each BOX. THE PLAN: that with the least WEIGHT");
        LongTrail x = new LongTrail();
        x.length(100);
        x.place(3, 50, 1);
        x.cost(49);
        Due.row("25 + 25 + 49 is less than 100", plan(x, 10, 20), 99, 1, 1);
        x.cost(51);
        Due.row("25 + 25 + 51 is more", plan(x, 10, 20), 100, 0, 0);
        x.cost(99);
        x.place(3, 25, 1);
        x.place(3, 75, 1);
        Due.row("each BOX", plan(x, 10, 3), 4 * 9 + 3 * 99, 3, 7);
    }

    private static void fewestBoxes() {
        Due.sentence("of several with the fewest BOXES");
        LongTrail x = new LongTrail();
        x.length(100);
        x.place(3, 50, 1);
        x.cost(50);
        Due.row("25 + 25 + 50 or 100", plan(x, 10, 20), 100, 0, 0);
        LongTrail y = new LongTrail();
        y.length(40);
        y.place(3, 20, 1);
        y.place(3, 0, 1);
        y.place(3, 40, 1);
        y.cost(0);
        Due.row("BOXES at the ends are of no use", plan(y, 10, 20), 8, 1, 2);
    }

    private static void leastAsBits() {
        Due.sentence("then the least as bits (TOWNS by MILES, the first the lowest)");
        LongTrail x = new LongTrail();
        x.length(100);
        x.place(3, 60, 1);
        x.place(3, 40, 1);
        x.cost(30);
        Due.row("16 + 36 + 30 both", plan(x, 10, 20), 82, 1, 1);
        LongTrail y = new LongTrail();
        y.length(90);
        y.place(3, 10, 1);
        y.place(3, 40, 1);
        y.place(3, 50, 1);
        y.place(3, 80, 1);
        y.cost(41);
        Due.row("none of them", plan(y, 10, 20), 81, 0, 0);
        y.cost(39);
        Due.row("the second or the third", plan(y, 10, 20), 16 + 25 + 39, 1, 2);
    }

    private static void townsByMiles() {
        Due.sentence("the set (TOWNS by MILES as bits)");
        LongTrail x = new LongTrail();
        x.length(2000);
        x.cost(0);
        for (int i = 0; i < 16; i++) {
            x.place(3, 2000 - 120 * (i + 1), 1);
        }
        Due.row("16 TOWNS, numbered from the end on", plan(x, 40, 20), 9 * 16 + 4, 16, 65535);
        LongTrail y = new LongTrail();
        y.length(80);
        y.cost(0);
        y.place(0, 10, 0);
        y.place(2, 20, 1);
        y.place(3, 79, 1);
        y.place(1, 35, 0);
        y.place(3, 40, 1);
        Due.row("TOWNS alone count", plan(y, 40, 20), 2, 1, 1);
    }

    private static void townsAtTheEnds() {
        Due.sentence("LEGS: from MILE 0 .. to LENGTH (TOWNS at MILE 0 and LENGTH)");
        LongTrail x = new LongTrail();
        x.length(20);
        x.place(3, 0, 1);
        x.place(3, 20, 1);
        Due.row("no BOX there", plan(x, 20, 1), 1, 0, 0);
        Due.row("nor of any use", plan(x, 19, 1), Due.NONE, Due.NONE, Due.NONE);
    }

    private static void planBounds() {
        Due.sentence("THE PLAN for a PACE and CARRY: what 0 WEIGHT, 1 how many BOXES, 2 the set .. BAD");
        LongTrail x = new LongTrail();
        x.length(20);
        Due.bounds("pace", 1, 40, v -> x.plan(v, 20, 0));
        Due.bounds("carry", 1, 20, v -> x.plan(20, v, 0));
        Due.bounds("what", 0, 2, v -> x.plan(20, 20, v));
        LongTrail y = new LongTrail();
        Due.all("BAD stands ahead of NONE", Due.BAD, y.plan(0, 1, 0), y.plan(41, 1, 0), y.plan(1, 0, 0), y.plan(1, 21, 0),
                y.plan(1, 1, 3), y.plan(1, 1, -1));
    }

    private static void planNone() {
        Due.sentence("(plan) NONE: there is none.");
        LongTrail x = new LongTrail();
        Due.row("400 MILES", Due.ints(x.plan(20, 20, 0), x.plan(19, 20, 0), x.plan(40, 10, 0), x.plan(40, 9, 0),
                x.plan(40, 9, 1), x.plan(40, 9, 2)), 400, Due.NONE, 100, Due.NONE, Due.NONE, Due.NONE);
        x.length(2000);
        Due.all("2000 MILES", Due.NONE, x.plan(40, 20, 0), x.plan(40, 20, 1), x.plan(40, 20, 2));
    }

    private static LongTrail towns(int many) {
        LongTrail x = new LongTrail();
        for (int i = 0; i < many; i++) {
            x.place(3, 20 * i, 1);
        }
        return x;
    }

    private static void ridesAtMost() {
        Due.sentence("RIDES, 12 at most, numbered from 0");
        LongTrail x = towns(3);
        Due.is("none", x.count(12), 0);
        for (int i = 0; i < 12; i++) {
            Due.row("number of the next RIDE", Due.ints(x.ride(0, 1, 100 - i), x.count(12), x.minutes(0, 1)), i, i + 1, 100 - i);
        }
        Due.row("the 13th", Due.ints(x.ride(0, 1, 1), x.count(12), x.minutes(0, 1)), Due.FULL, 12, 89);
    }

    private static void rideBounds() {
        Due.sentence("between two TOWNS, MINUTES 1 .. 999 .. BAD: also if the TOWNS are one");
        Due.bounds("minutes", 1, 999, v -> towns(2).ride(0, 1, v));
        Due.bounds("place", 0, 1, v -> towns(3).ride(v == 2 ? 3 : v, 2, 5));
        Due.bounds("other", 0, 1, v -> towns(3).ride(2, v == 2 ? 3 : v, 5));
        Due.row("one TOWN", Due.ints(towns(2).ride(0, 0, 5), towns(2).ride(1, 1, 5), towns(2).ride(1, 0, 5)),
                Due.BAD, Due.BAD, 0);
    }

    private static void rideRefused() {
        Due.sentence("(ride) BAD: ..; KIND: one is no TOWN; FULL.");
        for (int kind = 0; kind < 6; kind++) {
            LongTrail x = towns(1);
            x.place(kind, 7, kind == 0 || kind == 1 ? 0 : 1);
            Due.row("KIND " + kind, Due.ints(x.ride(0, 1, 5), x.count(12), x.ride(1, 0, 5), x.count(12)),
                    kind == 3 ? 0 : Due.KIND, kind == 3 ? 1 : 0, kind == 3 ? 1 : Due.KIND, kind == 3 ? 2 : 0);
            Due.all("BAD stands first", Due.BAD, x.ride(0, 1, 0), x.ride(0, 1, 1000), x.ride(1, 2, 5), x.ride(1, 1, 5));
        }
        LongTrail full = towns(2);
        full.place(2, 7, 1);
        for (int i = 0; i < 12; i++) {
            full.ride(0, 1, 5);
        }
        Due.row("FULL is the last", Due.ints(full.ride(0, 1, 5), full.ride(0, 2, 5), full.ride(0, 0, 5), full.ride(0, 1, 0)),
                Due.FULL, Due.KIND, Due.BAD, Due.BAD);
    }

    private static void bothWays() {
        Due.sentence("MINUTES 1 .. 999 (both ways)");
        LongTrail x = towns(3);
        x.ride(1, 0, 999);
        x.ride(1, 2, 1);
        Due.row("there and back", Due.ints(x.minutes(0, 1), x.minutes(1, 0), x.minutes(2, 1), x.minutes(0, 2), x.minutes(2, 0)),
                999, 999, 1, 1000, 1000);
    }

    private static void leastTogether() {
        Due.sentence("RIDE of two TOWNS: the least MINUTES together.");
        LongTrail x = towns(4);
        x.ride(0, 3, 10);
        x.ride(0, 1, 3);
        x.ride(2, 1, 3);
        Due.is("one way", x.minutes(0, 3), 10);
        x.ride(2, 3, 4);
        Due.is("another of as many", x.minutes(0, 3), 10);
        x.ride(3, 2, 3);
        Due.row("one of less", Due.ints(x.minutes(0, 3), x.minutes(3, 0)), 9, 9);
        LongTrail far = towns(14);
        for (int i = 0; i < 12; i++) {
            far.ride(i, i + 1, 999);
        }
        Due.row("all twelve", Due.ints(far.minutes(0, 12), far.minutes(12, 0), far.minutes(0, 13), far.minutes(13, 12)),
                11988, 11988, Due.NONE, Due.NONE);
        LongTrail back = towns(14);
        for (int i = 11; i >= 0; i--) {
            back.ride(i, i + 1, 999);
        }
        Due.row("all twelve, told from the end on", Due.ints(back.minutes(0, 12), back.minutes(12, 0)), 11988, 11988);
    }

    private static void minutesRefused() {
        Due.sentence("RIDE of two TOWNS (of one: 0). BAD; KIND: one is no TOWN; NONE.");
        LongTrail x = towns(2);
        x.place(2, 7, 1);
        Due.bounds("place", 0, 2, v -> x.minutes(v, 0));
        Due.bounds("other", 0, 2, v -> x.minutes(0, v));
        Due.row("of one", Due.ints(x.minutes(0, 0), x.minutes(1, 1)), 0, 0);
        Due.all("no RIDES", Due.NONE, x.minutes(0, 1), x.minutes(1, 0));
        Due.all("no TOWN", Due.KIND, x.minutes(0, 2), x.minutes(2, 0), x.minutes(2, 2));
        Due.all("BAD stands first", Due.BAD, x.minutes(2, 3), x.minutes(3, 2), x.minutes(-1, 2), x.minutes(2, -1));
        for (int kind = 0; kind < 6; kind++) {
            LongTrail y = towns(1);
            y.place(kind, 7, kind == 0 || kind == 1 ? 0 : 1);
            Due.row("KIND " + kind, Due.ints(y.minutes(0, 1), y.minutes(1, 0), y.minutes(1, 1)),
                    kind == 3 ? Due.NONE : Due.KIND, kind == 3 ? Due.NONE : Due.KIND, kind == 3 ? 0 : Due.KIND);
        }
    }

    private static void roundTowns() {
        Due.sentence("ROUND a FIRE: RIDE from the last TOWN at its first MILE or ahead of that to the first TOWN at its other "
                + "MILE or behind that.");
        LongTrail x = new LongTrail();
        x.place(3, 50, 1);
        x.place(3, 100, 1);
        x.place(3, 200, 1);
        x.place(3, 250, 1);
        x.place(2, 150, 1);
        x.ride(1, 2, 1);
        x.ride(0, 2, 20);
        x.ride(1, 3, 300);
        x.fire(100, 200, 0);
        x.fire(99, 200, 0);
        x.fire(101, 200, 0);
        x.fire(100, 199, 0);
        x.fire(100, 201, 0);
        x.fire(99, 201, 0);
        Due.row("at, a MILE ahead, a MILE behind", Due.ints(x.round(0), x.round(1), x.round(2), x.round(3), x.round(4),
                x.round(5)), 1, 20, 1, 1, 300, 321);
        LongTrail y = new LongTrail();
        y.place(3, 400, 1);
        y.place(3, 0, 1);
        y.fire(0, 400, 999999);
        y.ride(0, 1, 999);
        Due.is("the whole TRAIL, not on now", y.round(0), 999);
        LongTrail z = new LongTrail();
        z.place(3, 100, 1);
        z.place(3, 90, 1);
        z.place(3, 300, 1);
        z.place(3, 310, 1);
        z.fire(200, 250, 0);
        z.ride(0, 2, 7);
        z.ride(1, 3, 1);
        Due.is("the last one ahead, the first one behind", z.round(0), 7);
        int[][] orders = {{100, 90, 80, 300, 310, 320}, {300, 310, 320, 80, 100, 90}, {320, 300, 310, 90, 80, 100}};
        for (int[] miles : orders) {
            LongTrail o = new LongTrail();
            o.fire(200, 250, 0);
            int from = -1;
            int to = -1;
            for (int i = 0; i < 6; i++) {
                o.place(3, miles[i], 1);
                from = miles[i] == 100 ? i : from;
                to = miles[i] == 300 ? i : to;
            }
            o.ride(from, to, 9);
            Due.is("whatever their numbers are", o.round(0), 9);
        }
    }

    private static void roundNone() {
        Due.sentence("ROUND a FIRE. BAD; NONE: no such TOWNS, no RIDES.");
        LongTrail x = new LongTrail();
        x.fire(100, 200, 0);
        Due.bounds("fire", 0, 0, v -> x.round(v));
        Due.is("no TOWNS", x.round(0), Due.NONE);
        x.place(3, 100, 1);
        Due.is("one ahead alone", x.round(0), Due.NONE);
        x.place(3, 199, 1);
        x.ride(0, 1, 5);
        Due.is("one within", x.round(0), Due.NONE);
        x.place(3, 200, 1);
        Due.is("no RIDES", x.round(0), Due.NONE);
        x.ride(2, 1, 5);
        Due.is("RIDES by the one within", x.round(0), 10);
        LongTrail y = new LongTrail();
        y.fire(100, 200, 0);
        y.place(3, 200, 1);
        y.place(3, 101, 1);
        y.ride(0, 1, 5);
        Due.is("one behind alone", y.round(0), Due.NONE);
    }

    private static int[] row(LongTrail x, int v) {
        int[] got = new int[x.proved(v, 0)];
        for (int i = 0; i < got.length; i++) {
            got[i] = x.proved(v, 2 + i);
        }
        return got;
    }

    private static void picturesAtMost() {
        Due.sentence("PICTURES, 20 at most, numbered from 0");
        LongTrail x = new LongTrail();
        Due.row("none", Due.ints(x.count(13), x.proved(9, 0), x.proved(9, 1), x.proved(9, 2)), 0, 0, 0, Due.NONE);
        for (int i = 0; i < 20; i++) {
            Due.row("number of the next PICTURE", Due.ints(x.picture(i, i), x.proved(9, 0), x.proved(9, 2 + i),
                    x.proved(9, 3 + i)), i, i + 1, i, Due.NONE);
        }
        Due.row("the 21st", Due.ints(x.picture(20, 20), x.count(13), x.proved(9, 0)), Due.FULL, 20, 20);
        Due.all("BAD stands first", Due.BAD, x.picture(-1, 0), x.picture(1000, 0), x.picture(0, -1), x.picture(0, 401));
    }

    private static void pictureBounds() {
        Due.sentence("One more PICTURE: its number. BAD: day (0 .. 999), mile; FULL.");
        Due.bounds("day", 0, 999, v -> new LongTrail().picture(v, 0));
        Due.bounds("mile", 0, 400, v -> new LongTrail().picture(0, v));
    }

    private static void daysRise() {
        Due.sentence("a row of PICTURES, their DAYS rising");
        for (int next = 4; next <= 6; next++) {
            LongTrail x = new LongTrail();
            x.picture(5, 10);
            x.picture(next, 10);
            Due.is("DAYS 5 and " + next, x.proved(99, 0), next == 5 ? 1 : 2);
            Due.is("the first of the row", x.proved(99, 2), next == 4 ? 1 : 0);
        }
    }

    private static void milesDoNotFall() {
        Due.sentence("MILES not falling");
        for (int next = 9; next <= 11; next++) {
            LongTrail x = new LongTrail();
            x.picture(5, 10);
            x.picture(6, next);
            Due.row("MILES 10 and " + next, Due.ints(x.proved(99, 0), x.proved(99, 1)), next == 9 ? 1 : 2, next == 11 ? 1 : 0);
        }
    }

    private static void milesADay() {
        Due.sentence("from one to the next not more than v times the DAYS between");
        for (int v : new int[] {1, 2, 99}) {
            for (int days : new int[] {1, 2, 3}) {
                for (int d = -1; d <= 1; d++) {
                    LongTrail x = new LongTrail();
                    x.picture(5, 10);
                    x.picture(5 + days, 10 + v * days + d);
                    Due.is(days + " DAYS, " + (v * days + d) + " MILES by " + v, x.proved(v, 0), d == 1 ? 1 : 2);
                }
            }
        }
        LongTrail all = new LongTrail();
        all.length(2000);
        all.picture(0, 0);
        all.picture(999, 2000);
        Due.row("999 DAYS", Due.ints(all.proved(2, 0), all.proved(3, 0)), 1, 2);
        LongTrail each = new LongTrail();
        each.picture(0, 0);
        each.picture(1, 1);
        each.picture(2, 10);
        Due.row("each step, not the whole row", Due.ints(each.proved(5, 0), each.proved(5, 1)), 2, 10);
    }

    private static void mostPictures() {
        Due.sentence("the most PICTURES");
        LongTrail x = new LongTrail();
        x.picture(0, 0);
        x.picture(9, 300);
        x.picture(1, 1);
        x.picture(2, 2);
        Due.row("three of few MILES are ahead of two of many", row(x, 34), 0, 2, 3);
        Due.is("MILES", x.proved(34, 1), 2);
    }

    private static void mostMiles() {
        Due.sentence("of several the most MILES from the first to the last");
        LongTrail x = new LongTrail();
        x.picture(0, 10);
        x.picture(0, 9);
        x.picture(1, 20);
        x.picture(1, 21);
        x.picture(1, 19);
        Due.row("from 9 to 21", row(x, 99), 1, 3);
        Due.is("MILES", x.proved(99, 1), 12);
        LongTrail y = new LongTrail();
        y.picture(0, 50);
        y.picture(1, 60);
        y.picture(0, 0);
        y.picture(1, 11);
        Due.row("not the farthest end", row(y, 11), 2, 3);
        y.picture(0, 100);
        y.picture(1, 105);
        Due.row("nor a row of fewer MILES behind it", row(y, 11), 2, 3);
    }

    private static void firstByNumbers() {
        Due.sentence("of several the first (by numbers, one by one)");
        LongTrail x = new LongTrail();
        x.picture(2, 4);
        x.picture(0, 0);
        x.picture(1, 3);
        x.picture(1, 1);
        x.picture(2, 4);
        x.picture(0, 0);
        Due.row("each the least number that will do", row(x, 9), 1, 2, 0);
        LongTrail y = new LongTrail();
        y.picture(1, 5);
        y.picture(1, 5);
        Due.row("one alone", row(y, 9), 0);
        LongTrail z = new LongTrail();
        z.picture(1, 8);
        z.picture(0, 0);
        z.picture(0, 2);
        z.picture(1, 10);
        Due.row("the first number of the row counts first", row(z, 9), 1, 0);
    }

    private static void provedBounds() {
        Due.sentence("PROVED by v (1 .. 99) .. BAD: v, what below 0.");
        LongTrail x = new LongTrail();
        x.picture(0, 0);
        Due.bounds("v", 1, 99, v -> x.proved(v, 0));
        Due.bounds("v of a PICTURE", 1, 99, v -> x.proved(v, 2));
        Due.all("what below 0", Due.BAD, x.proved(1, -1), x.proved(99, -2), x.proved(1, Integer.MIN_VALUE));
        Due.row("what from 0 on", Due.ints(x.proved(1, 0), x.proved(1, 1), x.proved(1, 2), x.proved(1, Integer.MAX_VALUE)),
                1, 0, 0, Due.NONE);
    }

    private static void provedWhat() {
        Due.sentence("2 + i: the i-th PICTURE (from 0 on; NONE: there are not so many)");
        LongTrail x = new LongTrail();
        Due.all("no PICTURES", Due.NONE, x.proved(1, 2), x.proved(1, 3), x.proved(1, Integer.MAX_VALUE));
        x.picture(3, 3);
        x.picture(2, 2);
        x.picture(1, 1);
        Due.row("three", Due.ints(x.proved(1, 2), x.proved(1, 3), x.proved(1, 4), x.proved(1, 5), x.proved(1, 22)),
                2, 1, 0, Due.NONE, Due.NONE);
    }
}
