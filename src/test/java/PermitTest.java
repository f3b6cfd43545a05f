/** Promises 27 to 37: permits, plans, rides and pictures. */
public final class PermitTest {
    public static void main(String[] args) {
        quota();
        wish();
        granted();
        drawn();
        would();
        cost();
        plan();
        planTies();
        ride();
        minutes();
        round();
        picture();
        proved();
        provedTies();
        Due.end("PermitTest");
    }

    private static void quota() {
        LongTrail x = new LongTrail();
        Due.all("quota: BAD", Due.BAD, x.quota(-1, 1), x.quota(7, 1), x.quota(0, -1), x.quota(0, 10));
        for (int weekday = 0; weekday < 7; weekday++) {
            Due.is("quota", x.quota(weekday, 9 - weekday), 1);
        }
        for (int weekday = 0; weekday < 7; weekday++) {
            Due.is("quota", x.quota(weekday, 0), 9 - weekday);
        }
    }

    private static void wish() {
        LongTrail x = new LongTrail();
        Due.all("wish: BAD", Due.BAD, x.wish(-1, 0), x.wish(1000, 0), x.wish(0, -1), x.wish(0, 10));
        for (int i = 0; i < 16; i++) {
            Due.is("wish", x.wish(i * 66, i % 10), i);
        }
        Due.is("wish: FULL", x.wish(0, 0), Due.FULL);
        Due.is("wish: BAD stands ahead of FULL", x.wish(0, 10), Due.BAD);
        Due.is("WISHES", x.count(11), 16);
        Due.all("granted: BAD", Due.BAD, x.granted(-1), x.granted(16));
    }

    private static void granted() {
        LongTrail x = new LongTrail();
        x.quota(0, 0);
        x.quota(1, 2);
        x.wish(7, 0);
        x.wish(7, 1);
        x.wish(8, 0);
        x.wish(8, 1);
        x.wish(7, 3);
        x.wish(994, 1);
        x.wish(994, 9);
        x.wish(994, 9);
        x.wish(998, 4);
        x.wish(998, 4);
        Due.row("granted", Due.ints(x.granted(0), x.granted(1), x.granted(2), x.granted(3), x.granted(4)),
                Due.NONE, 8, 8, 9, 10);
        Due.row("granted above 999", Due.ints(x.granted(5), x.granted(6), x.granted(7), x.granted(8), x.granted(9)),
                995, 995, 996, 998, 999);
        x.quota(994 % 7, 0);
        x.quota(995 % 7, 0);
        x.quota(996 % 7, 0);
        x.quota(997 % 7, 0);
        x.quota(998 % 7, 0);
        x.quota(999 % 7, 0);
        Due.row("granted above 999", Due.ints(x.granted(5), x.granted(6), x.granted(8)), Due.NONE, 1000, Due.NONE);
    }

    private static void drawn() {
        LongTrail x = new LongTrail();
        x.wish(5, 1);
        x.wish(6, 0);
        x.wish(6, 1);
        x.wish(5, 0);
        x.wish(6, 0);
        Due.row("without a text", Due.ints(x.granted(0), x.granted(1), x.granted(2), x.granted(3), x.granted(4)),
                5, 6, 7, Due.NONE, Due.NONE);
        Due.text(x, 1, 0, "draw 0-d");
        Due.row("another LAND's text", Due.ints(x.granted(0), x.granted(1)), 5, 6);
        Due.text(x, 0, 1, "draw d");
        Due.is("not in force", x.granted(2), 7);
        x.run(1);
        Due.row("the later DAY first", Due.ints(x.granted(0), x.granted(1), x.granted(2), x.granted(3), x.granted(4)),
                5, 6, 7, Due.NONE, Due.NONE);
        Due.text(x, 0, 1, "draw 0-p");
        Due.row("the DAY with fewer first", Due.ints(x.granted(0), x.granted(1), x.granted(2), x.granted(3),
                x.granted(4)), 5, 6, 7, Due.NONE, Due.NONE);
        LongTrail y = new LongTrail();
        y.wish(6, 0);
        y.wish(6, 0);
        y.wish(5, 1);
        y.wish(5, 1);
        y.wish(5, 1);
        Due.row("by numbers", Due.ints(y.granted(0), y.granted(2), y.granted(3)), 6, 5, Due.NONE);
        Due.text(y, 0, 0, "draw p");
        Due.row("3 wishes of DAY 5 are ahead of 2", Due.ints(y.granted(0), y.granted(2), y.granted(3), y.granted(4)),
                Due.NONE, 5, 6, Due.NONE);
        Due.text(y, 0, 0, "draw d");
        Due.row("DAY 6 is ahead of DAY 5", Due.ints(y.granted(0), y.granted(2), y.granted(3)), 6, 5, Due.NONE);
        Due.text(y, 0, 0, "draw (d=5)*9999*9999*9999");
        Due.row("below 0", Due.ints(y.granted(0), y.granted(2)), 9999 * 9999 * 9999 < 0 ? 6 : Due.NONE, 5);
    }

    private static void would() {
        LongTrail x = new LongTrail();
        Due.is("would: no WISHES", x.would(9), 0);
        for (int i = 0; i < 5; i++) {
            x.wish(3, i % 2);
        }
        Due.row("would", Due.ints(x.would(0), x.would(1), x.would(2), x.would(3), x.would(4), x.would(9)),
                0, 2, 3, 4, 4, 5);
        Due.all("would: BAD", Due.BAD, x.would(-1), x.would(10));
        Due.is("would: QUOTA is as it was", x.quota(3, 1), 1);
        Due.is("would: so is what is granted", x.granted(2), Due.NONE);
        Due.is("would: so is what is granted", x.granted(1), 4);
    }

    private static void cost() {
        LongTrail x = new LongTrail();
        Due.all("cost: BAD", Due.BAD, x.cost(-1), x.cost(100));
        Due.is("cost", x.cost(99), 10);
        Due.is("cost", x.cost(0), 99);
    }

    private static void plan() {
        LongTrail x = new LongTrail();
        x.length(100);
        Due.all("plan: BAD", Due.BAD, x.plan(0, 1, 0), x.plan(41, 1, 0), x.plan(1, 0, 0), x.plan(1, 21, 0),
                x.plan(1, 1, -1), x.plan(1, 1, 3));
        Due.row("no BOX", Due.ints(x.plan(10, 10, 0), x.plan(10, 10, 1), x.plan(10, 10, 2)), 100, 0, 0);
        Due.all("none", Due.NONE, x.plan(10, 9, 0), x.plan(10, 9, 1), x.plan(10, 9, 2));
        Due.is("up", x.plan(11, 10, 0), 100);
        Due.all("the least PACE and CARRY", Due.NONE, x.plan(1, 20, 0), x.plan(40, 1, 0), x.plan(1, 1, 0));
        x.length(20);
        Due.row("the least PACE and CARRY", Due.ints(x.plan(1, 20, 0), x.plan(20, 1, 0), x.plan(19, 1, 0)),
                400, 1, Due.NONE);
        x.length(100);
        Due.is("up", x.plan(12, 9, 0), 81);
        x.place(3, 71, 1);
        x.place(2, 50, 1);
        x.place(3, 31, 1);
        Due.row("two BOXES", Due.ints(x.plan(10, 8, 0), x.plan(10, 8, 1), x.plan(10, 8, 2)), 16 + 16 + 9 + 20, 2, 3);
        x.cost(99);
        Due.row("the lesser WEIGHT", Due.ints(x.plan(10, 8, 0), x.plan(10, 8, 1), x.plan(10, 8, 2)), 16 + 49 + 99, 1, 1);
        Due.row("the only TOWN that will do", Due.ints(x.plan(10, 7, 0), x.plan(10, 7, 1), x.plan(10, 7, 2)), 16 + 49 + 99, 1, 1);
        Due.row("no BOX", Due.ints(x.plan(10, 10, 0), x.plan(10, 10, 1), x.plan(10, 10, 2)), 100, 0, 0);
        Due.is("none", x.plan(10, 3, 0), Due.NONE);
    }

    private static void planTies() {
        LongTrail x = new LongTrail();
        x.length(60);
        x.place(3, 20, 1);
        x.place(3, 0, 1);
        x.place(3, 60, 1);
        x.place(3, 40, 1);
        x.cost(0);
        Due.row("fewest BOXES", Due.ints(x.plan(20, 20, 0), x.plan(20, 20, 1), x.plan(20, 20, 2)), 3, 2, 6);
        x.cost(2);
        Due.row("of three like ones that without a BOX fewer", Due.ints(x.plan(20, 20, 0), x.plan(20, 20, 1)), 7, 1);
        Due.is("the least as bits", x.plan(20, 20, 2), 2);
        LongTrail y = new LongTrail();
        y.length(2000);
        for (int i = 0; i < 16; i++) {
            y.place(3, 2000 - 120 * (i + 1), 9);
        }
        Due.row("all TOWNS", Due.ints(y.plan(6, 20, 0), y.plan(6, 20, 1), y.plan(6, 20, 2)),
                17 * 400 - 400 + 14 * 14 + 160, 16, 65535);
    }

    private static void ride() {
        LongTrail x = new LongTrail();
        x.place(3, 10, 1);
        x.place(3, 20, 1);
        x.place(2, 30, 1);
        Due.all("ride: BAD", Due.BAD, x.ride(-1, 0, 1), x.ride(0, -1, 1), x.ride(3, 0, 1), x.ride(0, 3, 1),
                x.ride(0, 0, 1), x.ride(0, 1, 0), x.ride(0, 1, 1000), x.ride(0, 2, 0), x.ride(2, 2, 1));
        Due.all("ride: KIND", Due.KIND, x.ride(0, 2, 1), x.ride(2, 0, 1));
        for (int i = 0; i < 12; i++) {
            Due.is("ride", x.ride(i % 2, 1 - i % 2, 999 - i), i);
        }
        Due.is("ride: FULL", x.ride(0, 1, 1), Due.FULL);
        Due.is("ride: KIND stands ahead of FULL", x.ride(0, 2, 1), Due.KIND);
        Due.is("RIDES", x.count(12), 12);
        Due.is("the least", x.minutes(0, 1), 988);
    }

    private static void minutes() {
        LongTrail x = new LongTrail();
        for (int i = 0; i < 14; i++) {
            x.place(3, 20 * i, 1);
        }
        x.place(5, 399, 1);
        for (int i = 0; i < 12; i++) {
            x.ride(12 - i, 11 - i, 999);
        }
        Due.row("a long way", Due.ints(x.minutes(0, 12), x.minutes(12, 0), x.minutes(3, 5)), 12 * 999, 12 * 999, 1998);
        Due.all("NONE", Due.NONE, x.minutes(0, 13), x.minutes(13, 0));
        Due.all("of one", 0, x.minutes(13, 13), x.minutes(5, 5));
        Due.all("KIND", Due.KIND, x.minutes(14, 0), x.minutes(0, 14), x.minutes(14, 14));
        Due.all("BAD", Due.BAD, x.minutes(-1, 0), x.minutes(0, -1), x.minutes(15, 0), x.minutes(14, 15));
    }

    private static void round() {
        LongTrail x = new LongTrail();
        x.place(3, 200, 1);
        x.place(3, 100, 1);
        x.place(3, 50, 1);
        x.place(2, 150, 1);
        x.place(3, 300, 1);
        x.fire(100, 200, 0);
        x.fire(99, 201, 0);
        x.fire(49, 60, 0);
        x.fire(100, 301, 0);
        x.fire(120, 130, 0);
        Due.is("no RIDES", x.round(0), Due.NONE);
        x.ride(0, 1, 7);
        x.ride(0, 4, 5);
        Due.row("round", Due.ints(x.round(0), x.round(1), x.round(2), x.round(3), x.round(4)),
                7, Due.NONE, Due.NONE, Due.NONE, 7);
        x.ride(2, 4, 1);
        Due.row("round", Due.ints(x.round(0), x.round(1)), 7, 1);
        x.fire(200, 300, 0);
        Due.is("round", x.round(5), 5);
        Due.all("round: BAD", Due.BAD, x.round(-1), x.round(6));
    }

    private static void picture() {
        LongTrail x = new LongTrail();
        Due.all("picture: BAD", Due.BAD, x.picture(-1, 0), x.picture(1000, 0), x.picture(0, -1), x.picture(0, 401));
        Due.row("no PICTURES", Due.ints(x.proved(1, 0), x.proved(1, 1), x.proved(1, 2), x.proved(1, Integer.MAX_VALUE)),
                0, 0, Due.NONE, Due.NONE);
        for (int i = 0; i < 20; i++) {
            Due.is("picture", x.picture(999 - i, 400 - i), i);
        }
        Due.is("picture: FULL", x.picture(0, 0), Due.FULL);
        Due.is("picture: BAD stands ahead of FULL", x.picture(0, 401), Due.BAD);
        Due.is("PICTURES", x.count(13), 20);
        Due.row("all of them", Due.ints(x.proved(1, 0), x.proved(1, 1), x.proved(1, 2), x.proved(1, 21), x.proved(1, 22),
                x.proved(1, Integer.MAX_VALUE)), 20, 19, 19, 0, Due.NONE, Due.NONE);
        Due.all("proved: BAD", Due.BAD, x.proved(0, 0), x.proved(100, 0), x.proved(1, -1), x.proved(1, Integer.MIN_VALUE));
    }

    private static void proved() {
        LongTrail x = new LongTrail();
        x.picture(5, 100);
        Due.row("one", Due.ints(x.proved(1, 0), x.proved(1, 1), x.proved(1, 2), x.proved(1, 3)), 1, 0, 0, Due.NONE);
        x.picture(5, 100);
        Due.row("DAYS rise", Due.ints(x.proved(99, 0), x.proved(99, 2)), 1, 0);
        x.picture(6, 100);
        x.picture(7, 99);
        Due.row("MILES do not fall, but may stay", Due.ints(x.proved(99, 0), x.proved(99, 2), x.proved(99, 3),
                x.proved(99, 4)), 2, 0, 2, Due.NONE);
        x.picture(8, 111);
        Due.row("6 a DAY", Due.ints(x.proved(6, 0), x.proved(6, 1), x.proved(6, 2), x.proved(6, 3), x.proved(6, 4)),
                3, 11, 0, 2, 4);
        Due.row("5 a DAY", Due.ints(x.proved(5, 0), x.proved(5, 1), x.proved(5, 2), x.proved(5, 3), x.proved(5, 4)),
                2, 11, 0, 4, Due.NONE);
    }

    private static void provedTies() {
        LongTrail x = new LongTrail();
        x.picture(3, 20);
        x.picture(2, 15);
        x.picture(1, 10);
        x.picture(2, 12);
        x.picture(3, 21);
        x.picture(1, 9);
        x.picture(3, 21);
        x.picture(1, 9);
        Due.row("the most MILES, then the first", Due.ints(x.proved(9, 0), x.proved(9, 1), x.proved(9, 2), x.proved(9, 3),
                x.proved(9, 4)), 3, 12, 5, 1, 4);
        LongTrail y = new LongTrail();
        y.picture(2, 1);
        y.picture(1, 0);
        y.picture(1, 1);
        y.picture(2, 2);
        LongTrail z = new LongTrail();
        z.picture(2, 9);
        z.picture(2, 5);
        z.picture(1, 4);
        z.picture(2, 9);
        Due.row("the next one with the most MILES", Due.ints(z.proved(9, 1), z.proved(9, 2), z.proved(9, 3)), 5, 2, 0);
        Due.row("like ones: the first", Due.ints(y.proved(1, 0), y.proved(1, 1), y.proved(1, 2), y.proved(1, 3)),
                2, 1, 1, 0);
    }
}
