/** Promises 17 to 26: walkers, their boxes, and the days. */
public final class WalkerTest {
    public static void main(String[] args) {
        walker();
        is();
        shoes();
        zero();
        finds();
        box();
        send();
        run();
        startAndPace();
        hunger();
        boxesTaken();
        boxesStayedFor();
        boxesHoldUp();
        snow();
        fires();
        skipping();
        water();
        quitting();
        finishing();
        nights();
        crowd();
        Due.end("WalkerTest");
    }

    private static void walker() {
        LongTrail x = new LongTrail();
        x.run(5);
        Due.all("walker: BAD", Due.BAD, x.walker(4, 1, 0, 1, 1), x.walker(1000, 1, 0, 1, 1),
                x.walker(5, 0, 0, 1, 1), x.walker(5, 41, 0, 1, 1), x.walker(5, 1, -1, 1, 1),
                x.walker(5, 1, 6, 1, 1), x.walker(5, 1, 0, 0, 1), x.walker(5, 1, 0, 21, 1),
                x.walker(5, 1, 0, 1, 0), x.walker(5, 1, 0, 1, 100));
        Due.is("walker", x.walker(5, 1, 0, 1, 1), 0);
        Due.is("walker", x.walker(999, 40, 5, 20, 99), 1);
        for (int i = 2; i < 10; i++) {
            Due.is("walker", x.walker(5, 1, 0, 1, 1), i);
        }
        Due.is("walker: FULL", x.walker(5, 1, 0, 1, 1), Due.FULL);
        Due.is("walker: BAD stands ahead of FULL", x.walker(5, 1, 0, 1, 0), Due.BAD);
        Due.row("count of WALKERS", Due.ints(x.count(3), x.count(4), x.count(5)), 10, 10, 0);
    }

    private static void is() {
        LongTrail x = new LongTrail();
        x.walker(1, 30, 2, 7, 50);
        Due.row("is: as it comes", Due.walker(x, 0, 0, 14), 0, 0, 30, 0, 0, 0, 0, 0, 0, 0, 0, 0, 0, 0, 0);
        Due.all("is: BAD", Due.BAD, x.is(1, 0), x.is(-1, 0), x.is(0, -1), x.is(0, 15));
    }

    private static void shoes() {
        LongTrail x = new LongTrail();
        x.place(3, 10, 1);
        x.place(2, 20, 1);
        x.length(30);
        x.walker(0, 10, 0, 9, 9);
        Due.is("shoes: it WAITS", x.shoes(0), Due.NO);
        Due.all("shoes: BAD", Due.BAD, x.shoes(1), x.shoes(-1));
        x.run(1);
        Due.is("shoes", x.shoes(0), 10);
        Due.is("shoes: new ones", x.shoes(0), 0);
        Due.is("shoes: told", x.is(0, 8), 0);
        x.run(1);
        Due.is("shoes: at a HUT", x.shoes(0), Due.NO);
        Due.is("shoes: told", x.is(0, 8), 10);
        LongTrail y = new LongTrail();
        y.length(20);
        y.place(3, 20, 1);
        y.walker(0, 20, 0, 9, 9);
        y.run(1);
        Due.is("shoes: DONE at a TOWN", y.shoes(0), Due.NO);
    }

    private static void zero() {
        LongTrail x = new LongTrail();
        x.walker(0, 10, 0, 9, 9);
        Due.is("zero: it WAITS", x.zero(0, 1), Due.NO);
        x.run(1);
        Due.all("zero: BAD", Due.BAD, x.zero(1, 1), x.zero(-1, 1), x.zero(0, -1), x.zero(0, 10));
        Due.is("zero", x.zero(0, 9), 0);
        Due.is("zero", x.zero(0, 2), 9);
        x.run(2);
        Due.row("zero: two days", Due.walker(x, 0, 0, 14), 1, 10, 10, 8, 0, 1, 10, 1, 10, 0, 0, 3, 0, 0, 0);
        x.run(1);
        Due.row("zero: on again", Due.ints(x.is(0, 1), x.is(0, 3)), 20, 7);
        x.zero(0, 3);
        Due.is("zero: none", x.zero(0, 0), 3);
    }

    private static void finds() {
        LongTrail x = new LongTrail();
        x.walker(0, 10, 0, 9, 9);
        Due.is("finds: it WAITS", x.finds(0, 1), Due.NO);
        x.run(5);
        Due.all("finds: BAD", Due.BAD, x.finds(1, 1), x.finds(-1, 1), x.finds(0, 0), x.finds(0, 21));
        Due.is("finds", x.finds(0, 3), 7);
        Due.is("finds: CARRY at most", x.finds(0, 20), 9);
        Due.is("finds: told", x.is(0, 3), 9);
    }

    private static void box() {
        LongTrail x = new LongTrail();
        x.length(20);
        x.place(3, 10, 1);
        x.place(2, 15, 1);
        x.walker(0, 20, 0, 9, 9);
        x.walker(900, 20, 0, 9, 9);
        Due.all("box: BAD", Due.BAD, x.box(2, 0, 1, 0), x.box(-1, 0, 1, 0), x.box(0, 2, 1, 0), x.box(0, -1, 1, 0),
                x.box(0, 0, 0, 0), x.box(0, 0, 21, 0), x.box(0, 0, 1, -1), x.box(0, 0, 1, 100), x.box(0, 1, 0, 0));
        Due.is("box: KIND", x.box(0, 1, 1, 0), Due.KIND);
        x.run(7);
        Due.row("box: DONE, WAITS", Due.ints(x.is(0, 0), x.is(1, 0)), 3, 0);
        Due.is("box: NO", x.box(0, 0, 1, 0), Due.NO);
        Due.is("box: KIND stands ahead of NO", x.box(0, 1, 1, 0), Due.KIND);
        for (int i = 0; i < 20; i++) {
            Due.is("box", x.box(1, 0, 1 + i, 99 - i), i);
        }
        Due.is("box: FULL", x.box(1, 0, 1, 0), Due.FULL);
        Due.is("box: NO stands ahead of FULL", x.box(0, 0, 1, 0), Due.NO);
        Due.row("boxTold", Due.ints(x.boxTold(3, 0), x.boxTold(3, 1), x.boxTold(3, 2), x.boxTold(3, 3),
                x.boxTold(3, 4)), 1, 0, 4, 7 + 96, 0);
        Due.all("boxTold: BAD", Due.BAD, x.boxTold(20, 0), x.boxTold(-1, 0), x.boxTold(0, -1), x.boxTold(0, 5));
        Due.row("count of BOXES", Due.ints(x.count(8), x.count(9), x.is(1, 14), x.told(0, 5)), 20, 20, 20, 20);
    }

    private static void send() {
        LongTrail x = new LongTrail();
        x.place(3, 10, 1);
        x.place(3, 20, 1);
        x.place(1, 15, 0);
        x.walker(0, 10, 0, 9, 9);
        x.box(0, 0, 5, 50);
        Due.all("send: BAD", Due.BAD, x.send(1, 0, 0), x.send(-1, 0, 0), x.send(0, 3, 0), x.send(0, -1, 0),
                x.send(0, 0, -1), x.send(0, 0, 100), x.send(0, 2, 100));
        Due.is("send: KIND", x.send(0, 2, 0), Due.KIND);
        x.run(2);
        Due.is("it stays", x.is(0, 10), 1);
        Due.is("send", x.send(0, 1, 1), 1);
        Due.row("send: told", Due.ints(x.boxTold(0, 1), x.boxTold(0, 3), x.told(0, 5), x.told(1, 5)), 1, 3, 0, 1);
        x.run(1);
        Due.row("it goes on", Due.ints(x.is(0, 1), x.is(0, 10)), 20, 0);
        Due.is("send: the same TOWN", x.send(0, 1, 0), 1);
        x.run(1);
        Due.is("TAKEN", x.boxTold(0, 4), 1);
        Due.is("send: NO", x.send(0, 1, 0), Due.NO);
        Due.is("send: KIND stands ahead of NO", x.send(0, 2, 0), Due.KIND);
    }

    private static void run() {
        LongTrail x = new LongTrail();
        Due.all("run: BAD", Due.BAD, x.run(0), x.run(-1), x.run(61));
        for (int i = 1; i <= 16; i++) {
            Due.is("run", x.run(60), 60 * i);
        }
        Due.is("run: FULL", x.run(40), Due.FULL);
        Due.is("run: BAD stands ahead of FULL", x.run(61), Due.BAD);
        Due.is("run", x.run(38), 998);
        Due.is("run: FULL", x.run(2), Due.FULL);
        Due.is("crowd: FULL", x.crowd(2), Due.FULL);
        Due.is("run", x.run(1), 999);
        Due.is("run: FULL", x.run(1), Due.FULL);
        Due.is("walker on the last DAY", x.walker(999, 1, 0, 1, 1), 0);
    }

    private static void startAndPace() {
        LongTrail x = new LongTrail();
        x.length(2000);
        x.walker(2, 38, 5, 20, 99);
        x.walker(0, 1, 3, 20, 99);
        x.run(2);
        Due.row("it WAITS", Due.ints(x.is(0, 0), x.is(0, 1), x.count(4), x.count(5)), 0, 0, 1, 1);
        x.run(1);
        Due.row("it WALKS", Due.ints(x.is(0, 0), x.is(0, 1), x.is(0, 3)), 1, 38, 19);
        x.run(4);
        Due.row("PACE by GAIN on the 7th day", Due.ints(x.is(1, 7), x.is(1, 2), x.is(1, 1)), 7, 4, 7);
        x.run(2);
        Due.row("40 at most", Due.ints(x.is(0, 7), x.is(0, 2), x.is(0, 1)), 7, 40, 7 * 38);
        x.run(5);
        Due.row("PACE again", Due.ints(x.is(1, 7), x.is(1, 2), x.is(1, 1)), 14, 7, 7 + 28);
    }

    private static void hunger() {
        LongTrail x = new LongTrail();
        x.walker(0, 9, 0, 2, 99);
        x.run(2);
        Due.row("FOOD is gone", Due.ints(x.is(0, 1), x.is(0, 3), x.is(0, 4)), 18, 0, 0);
        x.run(1);
        Due.row("half a PACE", Due.ints(x.is(0, 1), x.is(0, 3), x.is(0, 4)), 22, 0, 1);
        x.run(1);
        x.finds(0, 1);
        x.run(1);
        Due.row("not HUNGRY", Due.ints(x.is(0, 1), x.is(0, 3), x.is(0, 4)), 35, 0, 0);
        x.run(3);
        Due.row("QUIT with HUNGRY 3", Due.ints(x.is(0, 0), x.is(0, 1), x.is(0, 4)), 2, 47, 3);
        Due.all("QUIT: NO", Due.NO, x.finds(0, 1), x.zero(0, 1));
    }

    private static void boxesTaken() {
        LongTrail x = new LongTrail();
        x.place(3, 10, 1);
        x.walker(0, 10, 0, 9, 99);
        x.box(0, 0, 2, 1);
        x.box(0, 0, 3, 2);
        x.box(0, 0, 1, 0);
        x.run(2);
        Due.row("those that are there are TAKEN", Due.ints(x.boxTold(0, 4), x.boxTold(1, 4), x.boxTold(2, 4)), 1, 0, 1);
        Due.row("and it goes on", Due.ints(x.is(0, 1), x.is(0, 3), x.is(0, 14)), 20, 8, 1);
        LongTrail y = new LongTrail();
        y.place(3, 0, 1);
        y.walker(0, 10, 0, 9, 99);
        y.walker(0, 10, 0, 9, 99);
        y.box(0, 0, 2, 0);
        y.run(1);
        Due.row("CARRY at most, and others' BOXES do not matter", Due.ints(y.is(0, 1), y.is(0, 3), y.is(1, 1)), 10, 8, 10);
    }

    private static void boxesStayedFor() {
        LongTrail x = new LongTrail();
        x.place(3, 10, 1);
        x.place(3, 15, 1);
        x.walker(0, 10, 0, 5, 99);
        x.shut(0, 1 << 1 | 1 << 2);
        x.box(0, 0, 2, 0);
        x.run(1);
        x.run(1);
        Due.row("the POST is SHUT on DAY 1", Due.ints(x.is(0, 1), x.is(0, 3), x.is(0, 10), x.is(0, 7)), 10, 4, 1, 1);
        x.run(1);
        Due.row("the POST is SHUT on DAY 2", Due.ints(x.is(0, 1), x.is(0, 3), x.is(0, 10), x.is(0, 7)), 10, 4, 2, 1);
        x.run(1);
        Due.row("open on DAY 3", Due.ints(x.is(0, 1), x.is(0, 3), x.is(0, 10), x.is(0, 14)), 20, 4, 0, 0);
        LongTrail late = new LongTrail();
        late.run(13);
        late.place(3, 0, 1);
        late.walker(13, 10, 0, 5, 99);
        late.shut(0, 1 << 6 | 1 << 1);
        late.box(0, 0, 2, 0);
        late.run(1);
        Due.row("SHUT on DAY 13", Due.ints(late.is(0, 1), late.is(0, 10)), 0, 1);
        late.run(1);
        Due.row("open on DAY 14", Due.ints(late.is(0, 1), late.is(0, 10)), 10, 0);
        LongTrail y = new LongTrail();
        y.place(3, 10, 1);
        y.place(3, 15, 1);
        y.walker(0, 10, 0, 5, 99);
        y.box(0, 0, 2, 5);
        y.box(0, 0, 2, 50);
        y.box(0, 1, 2, 50);
        y.run(4);
        Due.row("it has STAYED 3 DAYS", Due.ints(y.is(0, 1), y.is(0, 3), y.is(0, 10)), 10, 4, 3);
        y.keep();
        y.run(1);
        Due.row("GIVEN ON", Due.ints(y.boxTold(0, 4), y.boxTold(1, 4), y.boxTold(2, 4)), 2, 2, 0);
        Due.row("it goes on", Due.ints(y.is(0, 1), y.is(0, 3), y.is(0, 10)), 15, 3, 0);
        y.back();
        y.zero(0, 1);
        y.run(1);
        Due.row("ZERO days are no STAYED days", Due.ints(y.is(0, 1), y.is(0, 10), y.is(0, 9)), 10, 3, 0);
        y.run(1);
        Due.row("then one has come", Due.ints(y.boxTold(0, 4), y.boxTold(1, 4), y.is(0, 1), y.is(0, 3), y.is(0, 10)),
                1, 0, 15, 4, 0);
    }

    private static void boxesHoldUp() {
        LongTrail x = new LongTrail();
        x.place(3, 7, 1);
        x.place(3, 4, 1);
        x.walker(0, 40, 0, 5, 99);
        x.walker(0, 40, 0, 5, 99);
        x.box(0, 0, 2, 0);
        x.run(1);
        Due.row("not beyond a TOWN with OPEN BOXES", Due.ints(x.is(0, 1), x.is(1, 1)), 7, 40);
    }

    private static void snow() {
        LongTrail x = new LongTrail();
        x.place(4, 25, 0);
        x.place(4, 30, 1);
        x.walker(0, 10, 0, 20, 99);
        x.run(3);
        Due.is("not beyond the PASS", x.is(0, 1), 25);
        x.run(1);
        Due.row("0 MILES", Due.ints(x.is(0, 1), x.is(0, 8), x.is(0, 7), x.is(0, 3)), 25, 25, 4, 16);
        x.run(3);
        Due.is("as long as WEEK is 0", x.is(0, 1), 25);
        x.run(1);
        Due.is("WEEK 1: the next PASS", x.is(0, 1), 30);
        x.run(6);
        Due.is("WEEK 1", x.is(0, 1), 30);
        x.run(1);
        Due.is("WEEK 2", x.is(0, 1), 40);
    }

    private static void fires() {
        LongTrail x = new LongTrail();
        x.fire(25, 60, 1004);
        x.fire(5, 70, 1009);
        x.walker(0, 10, 0, 20, 99);
        x.walker(1, 10, 0, 20, 99);
        x.run(1);
        Due.is("not yet", x.is(0, 1), 10);
        x.run(1);
        Due.row("into one it goes on, up to the next one", Due.ints(x.is(0, 1), x.is(1, 1)), 20, 5);
        x.run(3);
        Due.row("waiting", Due.ints(x.is(0, 1), x.is(1, 1)), 25, 5);
        x.run(1);
        Due.row("one is out", Due.ints(x.is(0, 1), x.is(1, 1)), 35, 5);
        x.run(5);
        Due.row("both are out", Due.ints(x.is(0, 1), x.is(1, 1), x.is(1, 13)), 85, 15, 0);
    }

    private static void skipping() {
        LongTrail x = new LongTrail();
        x.length(100);
        x.fire(10, 20, 9);
        x.fire(10, 40, 9);
        x.fire(10, 30, 9);
        x.place(1, 40, 0);
        x.place(1, 10, 0);
        x.place(4, 20, 0);
        x.land(1, 5);
        x.land(2, 11);
        x.walker(0, 10, 0, 9, 1);
        Due.text(x, 0, 0, "skip 1");
        Due.text(x, 2, 0, "skip 1");
        Due.text(x, 1, 2, "skip l=30&f=7");
        x.run(2);
        Due.row("another LAND's text", Due.ints(x.is(0, 1), x.is(0, 6), x.is(0, 3)), 10, 0, 7);
        x.run(1);
        Due.row("round the longest FIRE", Due.walker(x, 0, 0, 14), 1, 40, 10, 6, 0, 0, 0, 3, 10, 0, 0, 3, 0, 30, 0);
        x.run(1);
        Due.row("on", Due.walker(x, 0, 0, 8), 1, 50, 10, 5, 0, 1, 10, 4, 20);
        LongTrail y = new LongTrail();
        y.length(20);
        y.place(1, 15, 0);
        y.fire(0, 20, 9);
        Due.text(y, 0, 0, "skip f");
        y.walker(0, 10, 0, 9, 1);
        y.run(1);
        Due.row("to the end", Due.walker(y, 0, 0, 13), 3, 20, 10, 8, 0, 0, 0, 1, 0, 0, 0, 0, 0, 20);
        LongTrail dry = new LongTrail();
        dry.place(1, 20, 0);
        dry.fire(10, 20, 9);
        Due.text(dry, 0, 0, "skip 1");
        dry.walker(0, 10, 0, 9, 9);
        dry.run(2);
        Due.row("no WATER at the other end", Due.ints(dry.is(0, 1), dry.is(0, 5), dry.is(0, 6)), 20, 2, 10);
        dry.run(1);
        Due.row("nor as it goes on from there", Due.ints(dry.is(0, 1), dry.is(0, 5), dry.is(0, 6)), 30, 3, 20);
        LongTrail snow = new LongTrail();
        snow.place(4, 10, 9);
        snow.fire(10, 20, 9);
        Due.text(snow, 0, 0, "skip 1");
        snow.walker(0, 10, 0, 9, 9);
        snow.run(2);
        Due.row("SNOW does not hold it up", Due.ints(snow.is(0, 1), snow.is(0, 13)), 20, 10);
        LongTrail z = new LongTrail();
        z.fire(0, 20, 9);
        Due.text(z, 0, 0, "skip f=0");
        z.walker(0, 10, 0, 1, 1);
        z.run(1);
        Due.is("FOOD 1", z.is(0, 1), 0);
        z.run(1);
        Due.row("FOOD 0", Due.ints(z.is(0, 1), z.is(0, 4)), 20, 1);
    }

    private static void water() {
        LongTrail x = new LongTrail();
        x.place(1, 0, 0);
        x.place(1, 14, 0);
        x.place(2, 17, 1);
        x.place(0, 19, 0);
        x.place(4, 18, 142);
        x.walker(0, 9, 0, 20, 8);
        x.run(1);
        Due.row("where it began is not counted", Due.ints(x.is(0, 5), x.is(0, 6)), 1, 9);
        x.run(1);
        Due.row("the last one of the walk", Due.ints(x.is(0, 1), x.is(0, 5), x.is(0, 6)), 18, 1, 1);
        x.run(1);
        Due.row("0 MILES more", Due.ints(x.is(0, 1), x.is(0, 5), x.is(0, 6)), 18, 1, 1);
        LongTrail y = new LongTrail();
        y.place(5, 8, 1);
        y.place(3, 40, 1);
        y.walker(0, 8, 0, 20, 8);
        y.run(1);
        Due.row("it stands at one", Due.ints(y.is(0, 5), y.is(0, 6)), 0, 0);
        y.run(1);
        Due.row("SKIN is enough", Due.ints(y.is(0, 5), y.is(0, 6)), 0, 8);
        y.run(2);
        Due.row("THIRSTY", Due.ints(y.is(0, 5), y.is(0, 6)), 2, 24);
        y.run(1);
        Due.row("at a TOWN", Due.ints(y.is(0, 5), y.is(0, 6)), 2, 0);
    }

    private static void quitting() {
        LongTrail x = new LongTrail();
        x.place(3, 30, 1);
        x.land(1, 20);
        Due.text(x, 0, 0, "quit 0");
        Due.text(x, 1, 0, "quit t=3&s=30&w=6&h=5");
        x.walker(0, 10, 0, 1, 12);
        x.walker(0, 10, 0, 1, 99);
        x.walker(0, 10, 0, 1, 12);
        x.box(2, 0, 3, 99);
        x.box(0, 0, 3, 99);
        x.run(5);
        Due.row("not yet", Due.walker(x, 0, 0, 8), 1, 30, 10, 0, 4, 3, 0, 5, 30);
        x.send(1, 0, 99);
        x.zero(1, 9);
        x.run(1);
        Due.row("it stays", Due.ints(x.is(0, 0), x.is(0, 10), x.is(0, 4)), 1, 1, 4);
        LongTrail y = new LongTrail();
        y.place(3, 30, 1);
        Due.text(y, 0, 0, "quit t=1&s=20&w=2&h=0");
        y.walker(0, 10, 0, 5, 12);
        y.walker(0, 10, 0, 5, 20);
        y.box(0, 0, 3, 9);
        y.box(1, 0, 3, 9);
        y.run(2);
        Due.row("QUIT, the other one not", Due.ints(y.is(0, 0), y.is(1, 0), y.is(0, 1)), 2, 1, 20);
        Due.row("its BOXES are GIVEN ON", Due.ints(y.boxTold(0, 4), y.boxTold(1, 4), y.is(0, 14), y.count(9)), 2, 0, 0, 1);
        Due.row("counts", Due.ints(y.count(5), y.count(6), y.count(7)), 1, 1, 0);
        y.run(2);
        Due.row("QUIT for good", Due.ints(y.is(0, 1), y.is(0, 11)), 20, 1);
    }

    private static void finishing() {
        LongTrail x = new LongTrail();
        x.length(20);
        x.place(3, 5, 1);
        x.walker(0, 15, 0, 5, 99);
        x.run(1);
        x.box(0, 0, 1, 0);
        x.run(1);
        Due.row("DONE", Due.walker(x, 0, 0, 14), 3, 20, 15, 3, 0, 0, 15, 2, 20, 0, 0, 1, 0, 0, 0);
        Due.row("its BOX is GIVEN ON", Due.ints(x.boxTold(0, 4), x.count(7)), 2, 1);
        Due.text(x, 0, 0, "quit 1");
        x.walker(2, 15, 0, 5, 99);
        x.run(2);
        Due.row("DONE for good; quit is asked first", Due.ints(x.is(0, 0), x.is(1, 0), x.is(0, 11)), 3, 2, 1);
        LongTrail y = new LongTrail();
        y.length(20);
        Due.text(y, 0, 0, "quit s=20");
        y.walker(0, 20, 0, 5, 99);
        y.run(1);
        Due.row("quit at the end", Due.ints(y.is(0, 0), y.is(0, 1)), 2, 20);
    }

    private static void nights() {
        LongTrail x = new LongTrail();
        x.place(5, 10, 2);
        x.place(0, 20, 0);
        x.place(4, 30, 142);
        x.land(1, 15);
        x.land(2, 25);
        for (int i = 0; i < 4; i++) {
            x.walker(0, 10, 0, 9, 99);
        }
        x.walker(0, 11, 0, 9, 99);
        Due.text(x, 0, 0, "camp m=11|n<4");
        Due.text(x, 1, 0, "camp n=1");
        x.run(1);
        Due.row("OUT", Due.ints(x.is(0, 11), x.is(1, 11), x.is(2, 11), x.is(3, 11), x.is(4, 11)), 0, 0, 1, 1, 1);
        Due.row("FINED", Due.ints(x.is(0, 12), x.is(1, 12), x.is(2, 12), x.is(3, 12), x.is(4, 12)), 0, 0, 1, 1, 0);
        x.run(1);
        Due.row("OUT", Due.ints(x.is(0, 11), x.is(1, 11), x.is(2, 11), x.is(3, 11), x.is(4, 11)), 1, 1, 2, 2, 2);
        Due.row("FINED", Due.ints(x.is(0, 12), x.is(1, 12), x.is(2, 12), x.is(3, 12), x.is(4, 12)), 1, 1, 2, 2, 0);
        x.run(1);
        Due.row("a PASS has no beds", Due.ints(x.is(0, 11), x.is(3, 11), x.is(4, 11)), 2, 3, 3);
        Due.row("without a text camp is 1", Due.ints(x.is(0, 12), x.is(3, 12), x.is(4, 12)), 1, 2, 0);
    }

    private static void crowd() {
        LongTrail x = new LongTrail();
        Due.is("crowd: nobody", x.crowd(60), 0);
        Due.all("crowd: BAD", Due.BAD, x.crowd(0), x.crowd(61), x.crowd(-1));
        x.length(60);
        x.place(4, 40, 0);
        x.place(3, 10, 1);
        x.walker(0, 10, 0, 20, 99);
        x.walker(1, 20, 0, 20, 99);
        x.walker(3, 40, 0, 20, 99);
        x.box(0, 1, 1, 0);
        Due.row("crowd", Due.ints(x.crowd(1), x.crowd(2), x.crowd(3), x.crowd(4), x.crowd(60)), 1, 2, 2, 3, 3);
        Due.text(x, 0, 0, "quit w=3");
        Due.row("crowd by a text", Due.ints(x.crowd(2), x.crowd(4)), 2, 2);
        Due.row("crowd: nothing went by", Due.ints(x.count(16), x.count(4), x.is(0, 1), x.boxTold(0, 4)), 0, 3, 0, 0);
    }
}
