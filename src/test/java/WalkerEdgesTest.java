/**
 * The boundary cases of promises 17 to 26, and of the numbers that "3 WALKERS" gives for walkers and boxes. Each method
 * tests one sentence of the document, which it names. How a DAY goes by is in DayEdgesTest.
 */
public final class WalkerEdgesTest {
    public static void main(String[] args) {
        walkersAtMost();
        startBounds();
        paceBounds();
        gainBounds();
        carryBounds();
        skinBounds();
        walkerRefused();
        statesInTurn();
        numbersAsItComes();
        isBounds();
        shoesRefused();
        shoesAnswer();
        zeroBounds();
        zeroRefused();
        findsBounds();
        findsCarryAtMost();
        findsRefused();
        boxesAtMost();
        boxBounds();
        boxTowns();
        boxRefused();
        boxDays();
        sendBounds();
        sendRefused();
        sendAnswer();
        boxToldBounds();
        boxStates();
        runBounds();
        runFull();
        crowdBounds();
        crowdFull();
        crowdIsNoAct();
        crowdAnswer();
        Due.end("WalkerEdgesTest");
    }

    /** LENGTH 20; a TOWN at MILE 10 and a HUT at MILE 15; 0 WALKS at the TOWN, 1 is DONE, 2 QUIT, 3 WAITS. */
    private static LongTrail four() {
        LongTrail x = new LongTrail();
        x.length(20);
        x.place(3, 10, 9);
        x.place(2, 15, 9);
        Due.text(x, 0, 0, "quit w=1&s=19");
        x.walker(0, 10, 0, 5, 9);
        x.walker(0, 20, 0, 5, 9);
        x.walker(0, 19, 0, 5, 9);
        x.walker(9, 10, 0, 5, 9);
        x.run(1);
        Due.row("WALKS, DONE, QUIT, WAITS", Due.ints(x.is(0, 0), x.is(1, 0), x.is(2, 0), x.is(3, 0)), 1, 3, 2, 0);
        return x;
    }

    private static void walkersAtMost() {
        Due.sentence("WALKERS, 10 at most, numbered from 0");
        LongTrail x = new LongTrail();
        Due.row("none", Due.ints(x.count(3), x.is(0, 0)), 0, Due.BAD);
        for (int i = 0; i < 10; i++) {
            Due.is("number of the next WALKER", x.walker(0, i + 1, 0, 1, 1), i);
            Due.row("it is there, no other one is", Due.ints(x.is(i, 2), x.is(i + 1, 2)), i + 1, Due.BAD);
        }
        Due.row("the 11th", Due.ints(x.walker(0, 1, 0, 1, 1), x.count(3), x.is(10, 0)), Due.FULL, 10, Due.BAD);
        x.run(60);
        Due.row("when all have QUIT, too", Due.ints(x.count(6), x.walker(60, 1, 0, 1, 1)), 10, Due.FULL);
    }

    private static void startBounds() {
        Due.sentence("BAD: start (from this DAY on, 999 at most)");
        Due.bounds("start on DAY 0", 0, 999, v -> new LongTrail().walker(v, 1, 0, 1, 1));
        for (int day : new int[] {1, 500, 998, 999}) {
            LongTrail x = new LongTrail();
            Due.runTo(x, day);
            x.keep();
            Due.bounds("start on DAY " + day, day, 999, v -> {
                x.back();
                return x.walker(v, 1, 0, 1, 1);
            });
        }
    }

    private static void paceBounds() {
        Due.sentence("a PACE 1 .. 40");
        Due.bounds("pace", 1, 40, v -> new LongTrail().walker(0, v, 0, 1, 1));
        for (int pace : new int[] {1, 40}) {
            LongTrail x = new LongTrail();
            x.walker(0, pace, 0, 1, 1);
            x.run(1);
            Due.row("its PACE, its MILE", Due.ints(x.is(0, 2), x.is(0, 1)), pace, pace);
        }
    }

    private static void gainBounds() {
        Due.sentence("a GAIN 0 .. 5");
        Due.bounds("gain", 0, 5, v -> new LongTrail().walker(0, 1, v, 1, 1));
        for (int gain : new int[] {0, 5}) {
            LongTrail x = new LongTrail();
            x.walker(0, 1, gain, 20, 1);
            x.run(7);
            Due.is("PACE behind 7 DAYS", x.is(0, 2), 1 + gain);
        }
    }

    private static void carryBounds() {
        Due.sentence("CARRY 1 .. 20 (days of FOOD)");
        Due.bounds("carry", 1, 20, v -> new LongTrail().walker(0, 1, 0, v, 1));
        for (int carry : new int[] {1, 20}) {
            LongTrail x = new LongTrail();
            x.walker(0, 1, 0, carry, 1);
            x.run(carry);
            Due.row("FOOD for so many days", Due.ints(x.is(0, 3), x.is(0, 4)), 0, 0);
            x.run(1);
            Due.row("not for one more", Due.ints(x.is(0, 3), x.is(0, 4)), 0, 1);
        }
    }

    private static void skinBounds() {
        Due.sentence("a SKIN 1 .. 99 (MILES without water)");
        Due.bounds("skin", 1, 99, v -> new LongTrail().walker(0, 1, 0, 1, v));
        for (int skin : new int[] {1, 99}) {
            LongTrail x = new LongTrail();
            x.walker(0, 1, 0, 20, skin);
            Due.text(x, 0, 0, "quit 0");
            for (int i = 0; i < skin; i++) {
                x.run(1);
                x.finds(0, 20);
            }
            Due.row("so many MILES", Due.ints(x.is(0, 6), x.is(0, 5)), skin, 0);
            x.run(1);
            Due.row("one more", Due.ints(x.is(0, 6), x.is(0, 5)), skin + 1, 1);
        }
    }

    private static void walkerRefused() {
        Due.sentence("BAD: start .., pace, gain, carry, skin; FULL.");
        LongTrail x = new LongTrail();
        x.run(3);
        for (int i = 0; i < 10; i++) {
            x.walker(3, 1, 0, 1, 1);
        }
        Due.all("BAD stands ahead of FULL", Due.BAD, x.walker(2, 1, 0, 1, 1), x.walker(1000, 1, 0, 1, 1),
                x.walker(3, 0, 0, 1, 1), x.walker(3, 41, 0, 1, 1), x.walker(3, 1, -1, 1, 1), x.walker(3, 1, 6, 1, 1),
                x.walker(3, 1, 0, 0, 1), x.walker(3, 1, 0, 21, 1), x.walker(3, 1, 0, 1, 0), x.walker(3, 1, 0, 1, 100));
        Due.all("FULL", Due.FULL, x.walker(3, 1, 0, 1, 1), x.walker(999, 40, 5, 20, 99));
    }

    private static void statesInTurn() {
        Due.sentence("0 WAITS, 1 WALKS, 2 QUIT, 3 DONE");
        LongTrail x = four();
        Due.row("how many of each", Due.ints(x.count(3), x.count(4), x.count(5), x.count(6), x.count(7)), 4, 1, 1, 1, 1);
    }

    private static void numbersAsItComes() {
        Due.sentence("As a WALKER comes all these numbers are 0 (SKIN aside).");
        LongTrail x = new LongTrail();
        x.walker(0, 40, 5, 20, 99);
        x.walker(999, 1, 0, 1, 1);
        Due.row("one", Due.walker(x, 0, 0, 14), 0, 0, 40, 0, 0, 0, 0, 0, 0, 0, 0, 0, 0, 0, 0);
        Due.row("another one", Due.walker(x, 1, 0, 14), 0, 0, 1, 0, 0, 0, 0, 0, 0, 0, 0, 0, 0, 0, 0);
        x.run(60);
        Due.row("as long as it WAITS", Due.walker(x, 1, 0, 14), 0, 0, 1, 0, 0, 0, 0, 0, 0, 0, 0, 0, 0, 0, 0);
    }

    private static void isBounds() {
        Due.sentence("Of a WALKER: what 0 state, .. 14 OPEN BOXES. BAD.");
        LongTrail x = new LongTrail();
        x.place(3, 5, 1);
        x.walker(0, 1, 0, 1, 1);
        x.walker(0, 1, 0, 1, 1);
        Due.bounds("what", 0, 14, v -> x.is(1, v));
        Due.bounds("walker", 0, 1, v -> x.is(v, 0));
        x.box(1, 0, 1, 0);
        x.box(1, 0, 1, 99);
        Due.row("OPEN BOXES", Due.ints(x.is(0, 14), x.is(1, 14)), 0, 2);
    }

    private static void shoesRefused() {
        Due.sentence("BAD; NO: it does not stand at a TOWN, or does not WALK.");
        LongTrail x = four();
        Due.bounds("walker", 0, 3, v -> x.shoes(v));
        Due.row("only one that WALKS at a TOWN", Due.ints(x.shoes(0), x.shoes(1), x.shoes(2), x.shoes(3)),
                0, Due.NO, Due.NO, Due.NO);
        for (int kind = 0; kind < 6; kind++) {
            LongTrail y = new LongTrail();
            y.place(kind, 10, kind == 0 || kind == 1 ? 0 : 1);
            y.walker(0, 10, 0, 9, 9);
            y.run(1);
            Due.is("at KIND " + kind, y.shoes(0), kind == 3 ? 10 : Due.NO);
            Due.is("SHOES then", y.is(0, 8), kind == 3 ? 0 : 10);
        }
        LongTrail town = new LongTrail();
        town.length(20);
        town.place(3, 20, 1);
        town.place(3, 0, 1);
        town.walker(0, 20, 0, 9, 9);
        town.walker(1, 20, 0, 9, 9);
        Due.is("one that WAITS, a TOWN at MILE 0", town.shoes(0), Due.NO);
        town.run(1);
        Due.row("one that is DONE at a TOWN", Due.ints(town.is(0, 0), town.shoes(0), town.is(0, 8)), 3, Due.NO, 20);
        Due.text(town, 0, 0, "quit 1");
        town.run(1);
        Due.row("one that QUIT at a TOWN", Due.ints(town.is(1, 0), town.shoes(1), town.is(1, 8)), 2, Due.NO, 20);
    }

    private static void shoesAnswer() {
        Due.sentence("New SHOES: how many MILES the old ones had.");
        LongTrail x = new LongTrail();
        x.place(3, 0, 1);
        x.place(3, 10, 1);
        x.place(4, 11, 1);
        x.walker(0, 10, 0, 9, 9);
        x.run(1);
        Due.row("10, then 0", Due.ints(x.shoes(0), x.shoes(0), x.is(0, 8)), 10, 0, 0);
        x.run(1);
        Due.row("the next MILE off the TOWN", Due.ints(x.is(0, 1), x.shoes(0), x.is(0, 8)), 11, Due.NO, 1);
    }

    private static void zeroBounds() {
        Due.sentence("ZERO days (0 .. 9) of a WALKER: what they were.");
        LongTrail x = four();
        Due.bounds("n", 0, 9, v -> x.zero(0, v));
        Due.bounds("walker", 0, 3, v -> x.zero(v, 0));
        Due.row("what they were", Due.ints(x.zero(0, 9), x.zero(0, 0), x.zero(0, 5), x.zero(0, 5), x.is(0, 9)),
                0, 9, 0, 5, 5);
    }

    private static void zeroRefused() {
        Due.sentence("(zero) BAD; NO: it does not WALK.");
        LongTrail x = four();
        Due.all("NO", Due.NO, x.zero(1, 1), x.zero(2, 1), x.zero(3, 1), x.zero(3, 0));
        Due.all("BAD stands first", Due.BAD, x.zero(1, 10), x.zero(2, -1), x.zero(3, 10));
        Due.row("none", Due.ints(x.is(1, 9), x.is(2, 9), x.is(3, 9)), 0, 0, 0);
    }

    private static void findsBounds() {
        Due.sentence("BAD: walker, n (1 .. 20)");
        LongTrail x = four();
        Due.bounds("n", 1, 20, v -> x.finds(0, v));
        Due.bounds("walker", 0, 3, v -> x.finds(v, 1));
    }

    private static void findsCarryAtMost() {
        Due.sentence("FOOD that is found: what it has then (CARRY at most).");
        LongTrail x = new LongTrail();
        x.walker(0, 1, 0, 5, 99);
        x.walker(0, 1, 0, 20, 99);
        x.run(3);
        Due.row("FOOD 2 of 5", Due.ints(x.finds(0, 2), x.finds(0, 1), x.finds(0, 1), x.is(0, 3)), 4, 5, 5, 5);
        Due.row("FOOD 17 of 20", Due.ints(x.finds(1, 2), x.finds(1, 20), x.is(1, 3)), 19, 20, 20);
        x.run(5);
        Due.row("FOOD 0 of 5", Due.ints(x.is(0, 3), x.finds(0, 20)), 0, 5);
        Due.row("FOOD 15 of 20", Due.ints(x.is(1, 3), x.finds(1, 5)), 15, 20);
    }

    private static void findsRefused() {
        Due.sentence("(finds) BAD: ..; NO: it does not WALK.");
        LongTrail x = four();
        Due.all("NO", Due.NO, x.finds(1, 1), x.finds(2, 20), x.finds(3, 1));
        Due.all("BAD stands first", Due.BAD, x.finds(1, 0), x.finds(2, 21), x.finds(3, -1), x.finds(4, 1), x.finds(-1, 1));
        Due.row("FOOD as it was", Due.ints(x.is(1, 3), x.is(2, 3), x.is(3, 3)), 4, 4, 0);
    }

    private static void boxesAtMost() {
        Due.sentence("BOXES, 20 at most, numbered from 0");
        LongTrail x = new LongTrail();
        x.place(3, 0, 1);
        x.walker(0, 1, 0, 1, 1);
        Due.row("none", Due.ints(x.count(8), x.boxTold(0, 0)), 0, Due.BAD);
        for (int i = 0; i < 20; i++) {
            Due.is("number of the next BOX", x.box(0, 0, i + 1, i), i);
            Due.row("it is there, no other one is", Due.ints(x.boxTold(i, 2), x.boxTold(i + 1, 2)), i + 1, Due.BAD);
        }
        Due.row("the 21st", Due.ints(x.box(0, 0, 1, 0), x.count(8), x.boxTold(20, 0)), Due.FULL, 20, Due.BAD);
        x.run(1);
        Due.row("though one is TAKEN", Due.ints(x.boxTold(0, 4), x.box(0, 0, 1, 0), x.count(8)), 1, Due.FULL, 20);
    }

    private static void boxBounds() {
        Due.sentence("with FOOD 1 .. 20 .. there n (0 .. 99) DAYS from now on .. BAD: walker, place, food, n");
        Due.bounds("walker", 0, 0, v -> withTown().box(v, 0, 1, 0));
        Due.bounds("place", 0, 0, v -> withTown().box(0, v, 1, 0));
        Due.bounds("food", 1, 20, v -> withTown().box(0, 0, v, 0));
        Due.bounds("n", 0, 99, v -> withTown().box(0, 0, 1, v));
    }

    private static LongTrail withTown() {
        LongTrail x = new LongTrail();
        x.place(3, 5, 1);
        x.walker(0, 1, 0, 1, 1);
        return x;
    }

    private static void boxTowns() {
        Due.sentence("(box) KIND: no TOWN");
        for (int kind = 0; kind < 6; kind++) {
            LongTrail x = new LongTrail();
            x.place(kind, 5, kind == 0 || kind == 1 ? 0 : 1);
            x.walker(0, 1, 0, 1, 1);
            Due.is("at KIND " + kind, x.box(0, 0, 1, 0), kind == 3 ? 0 : Due.KIND);
            Due.is("BOXES", x.count(8), kind == 3 ? 1 : 0);
        }
    }

    private static void boxRefused() {
        Due.sentence("(box) BAD: ..; KIND: ..; NO: the WALKER QUIT, or is DONE; FULL.");
        LongTrail x = four();
        Due.row("DONE, QUIT", Due.ints(x.box(1, 0, 1, 0), x.box(2, 0, 1, 0), x.count(8)), Due.NO, Due.NO, 0);
        Due.all("KIND stands ahead of NO", Due.KIND, x.box(1, 1, 1, 0), x.box(2, 1, 1, 0));
        Due.all("BAD stands ahead of KIND and NO", Due.BAD, x.box(1, 1, 0, 0), x.box(1, 1, 1, 100), x.box(1, 2, 1, 0),
                x.box(4, 1, 1, 0), x.box(-1, 1, 1, 0));
        Due.row("WALKS, WAITS", Due.ints(x.box(0, 0, 1, 0), x.box(3, 0, 1, 0)), 0, 1);
        for (int i = 2; i < 20; i++) {
            x.box(3, 0, 1, 0);
        }
        Due.row("FULL is the last", Due.ints(x.box(3, 0, 1, 0), x.box(1, 0, 1, 0), x.box(3, 1, 1, 0), x.box(3, 0, 0, 0)),
                Due.FULL, Due.NO, Due.KIND, Due.BAD);
    }

    private static void boxDays() {
        Due.sentence("One more BOX, there n (0 .. 99) DAYS from now on");
        LongTrail x = withTown();
        x.box(0, 0, 1, 0);
        x.box(0, 0, 1, 99);
        x.run(3);
        x.box(0, 0, 1, 0);
        x.box(0, 0, 1, 99);
        Due.row("its DAY", Due.ints(x.boxTold(0, 3), x.boxTold(1, 3), x.boxTold(2, 3), x.boxTold(3, 3)), 0, 99, 3, 102);
        LongTrail late = new LongTrail();
        late.place(3, 5, 1);
        Due.runTo(late, 999);
        late.walker(999, 1, 0, 1, 1);
        Due.row("above 999", Due.ints(late.box(0, 0, 1, 99), late.boxTold(0, 3)), 0, 1098);
    }

    private static void sendBounds() {
        Due.sentence("A BOX that is OPEN is sent on to another TOWN (or the same), there n (0 .. 99) DAYS from now on: 1. "
                + "BAD; ..");
        LongTrail x = withTown();
        x.place(3, 9, 1);
        x.box(0, 0, 1, 50);
        Due.bounds("box", 0, 0, v -> x.send(v, 0, 0));
        Due.bounds("place", 0, 1, v -> x.send(0, v, 0));
        Due.bounds("n", 0, 99, v -> x.send(0, 0, v));
    }

    private static void sendRefused() {
        Due.sentence("(send) BAD; KIND: no TOWN; NO: it is not OPEN.");
        LongTrail x = new LongTrail();
        x.place(3, 0, 1);
        x.place(2, 9, 1);
        x.walker(0, 1, 0, 1, 1);
        x.walker(0, 1, 0, 1, 1);
        x.box(0, 0, 1, 0);
        x.box(1, 0, 1, 99);
        x.box(1, 0, 1, 99);
        x.run(1);
        Due.all("KIND", Due.KIND, x.send(1, 1, 0), x.send(0, 1, 0));
        Due.row("TAKEN", Due.ints(x.boxTold(0, 4), x.send(0, 0, 5), x.boxTold(0, 3)), 1, Due.NO, 0);
        Due.all("BAD stands first", Due.BAD, x.send(0, 1, 100), x.send(0, 1, -1), x.send(0, 2, 0), x.send(3, 1, 0));
        Due.text(x, 0, 0, "quit 1");
        x.run(4);
        Due.row("GIVEN ON", Due.ints(x.boxTold(1, 4), x.send(1, 0, 5), x.boxTold(1, 3)), 2, Due.NO, 99);
        for (int kind = 0; kind < 6; kind++) {
            LongTrail y = withTown();
            y.place(kind, 7, kind == 0 || kind == 1 ? 0 : 1);
            y.box(0, 0, 1, 9);
            Due.row("to KIND " + kind, Due.ints(y.send(0, 1, 3), y.boxTold(0, 1), y.boxTold(0, 3)),
                    kind == 3 ? 1 : Due.KIND, kind == 3 ? 1 : 0, kind == 3 ? 3 : 9);
        }
    }

    private static void sendAnswer() {
        Due.sentence("(send) to another TOWN (or the same), there n .. DAYS from now on: 1.");
        LongTrail x = withTown();
        x.place(3, 9, 1);
        x.box(0, 0, 7, 50);
        x.run(2);
        Due.row("the same TOWN", Due.ints(x.send(0, 0, 0), x.boxTold(0, 1), x.boxTold(0, 3)), 1, 0, 2);
        Due.row("another TOWN", Due.ints(x.send(0, 1, 99), x.boxTold(0, 1), x.boxTold(0, 3)), 1, 1, 101);
        Due.row("the rest as it was", Due.ints(x.boxTold(0, 0), x.boxTold(0, 2), x.boxTold(0, 4), x.count(8)), 0, 7, 0, 1);
    }

    private static void boxToldBounds() {
        Due.sentence("Of a BOX: what 0 its WALKER, 1 the PLACE, 2 FOOD, 3 the DAY from which it is there, 4 state. BAD.");
        LongTrail x = new LongTrail();
        x.place(0, 1, 0);
        x.place(3, 5, 1);
        x.walker(0, 1, 0, 1, 1);
        x.walker(0, 1, 0, 1, 1);
        x.box(0, 1, 1, 0);
        x.box(1, 1, 20, 99);
        Due.bounds("what", 0, 4, v -> x.boxTold(1, v));
        Due.bounds("box", 0, 1, v -> x.boxTold(v, 0));
        Due.row("one", Due.ints(x.boxTold(1, 0), x.boxTold(1, 1), x.boxTold(1, 2), x.boxTold(1, 3), x.boxTold(1, 4)),
                1, 1, 20, 99, 0);
    }

    private static void boxStates() {
        Due.sentence("0 OPEN, 1 TAKEN, 2 GIVEN ON");
        LongTrail x = new LongTrail();
        x.place(3, 0, 1);
        x.walker(0, 1, 0, 1, 1);
        x.walker(0, 1, 0, 1, 1);
        x.walker(50, 1, 0, 1, 1);
        x.box(0, 0, 1, 0);
        x.box(1, 0, 1, 99);
        x.box(2, 0, 1, 0);
        x.run(4);
        Due.row("TAKEN, GIVEN ON, OPEN", Due.ints(x.boxTold(0, 4), x.boxTold(1, 4), x.boxTold(2, 4)), 1, 2, 0);
        Due.row("how many are OPEN", Due.ints(x.count(8), x.count(9), x.is(0, 14), x.is(1, 14), x.is(2, 14), x.told(0, 5)),
                3, 1, 0, 0, 1, 1);
    }

    private static void runBounds() {
        Due.sentence("n (1 .. 60) DAYS go by: the DAY. BAD; ..");
        Due.bounds("n", 1, 60, v -> new LongTrail().run(v));
        LongTrail x = new LongTrail();
        Due.row("the DAY", Due.ints(x.run(1), x.run(60), x.run(0), x.run(61), x.count(16)), 1, 61, Due.BAD, Due.BAD, 61);
    }

    private static void runFull() {
        Due.sentence("(run) FULL: it would be above 999.");
        for (int n : new int[] {1, 2, 59, 60}) {
            LongTrail x = new LongTrail();
            Due.runTo(x, 1000 - n);
            Due.row("one too many", Due.ints(x.run(n), x.count(16)), Due.FULL, 1000 - n);
            if (n > 1) {
                Due.is("up to 999", x.run(n - 1), 999);
            }
            Due.row("BAD stands first", Due.ints(x.run(0), x.run(61), x.run(Integer.MAX_VALUE)), Due.BAD, Due.BAD, Due.BAD);
        }
    }

    private static void crowdBounds() {
        Due.sentence("CROWD of n (1 .. 60) DAYS. BAD; ..");
        Due.bounds("n", 1, 60, v -> new LongTrail().crowd(v));
    }

    private static void crowdFull() {
        Due.sentence("(crowd) BAD; FULL.");
        LongTrail x = new LongTrail();
        Due.runTo(x, 939);
        Due.is("up to 999", x.crowd(60), 0);
        x.run(1);
        Due.row("up to 1000", Due.ints(x.crowd(60), x.crowd(59), x.crowd(61)), Due.FULL, 0, Due.BAD);
        Due.runTo(x, 999);
        Due.row("on DAY 999", Due.ints(x.crowd(1), x.crowd(0)), Due.FULL, Due.BAD);
    }

    private static void crowdIsNoAct() {
        Due.sentence("CROWD of n DAYS: .. of the n next DAYS, if they went by now.");
        LongTrail x = new LongTrail();
        x.place(3, 10, 1);
        x.walker(0, 10, 5, 3, 9);
        x.walker(2, 10, 5, 3, 9);
        x.box(0, 0, 1, 0);
        x.keep();
        int[] before = Due.walker(x, 0, 0, 14);
        x.crowd(60);
        Due.row("as it was", Due.walker(x, 0, 0, 14), before);
        Due.row("as it was", Due.ints(x.count(16), x.boxTold(0, 4), x.count(4)), 0, 0, 2);
        x.run(3);
        int mile = x.is(0, 1);
        x.crowd(60);
        Due.row("THE IMAGE, too", Due.ints(x.back(), x.is(0, 0), x.run(3), x.is(0, 1)), 0, 0, 3, mile);
    }

    private static void crowdAnswer() {
        Due.sentence("CROWD of n DAYS: the most that sleep at one MILE in a NIGHT of the n next DAYS");
        LongTrail x = new LongTrail();
        x.length(40);
        Due.is("nobody", x.crowd(60), 0);
        for (int i = 0; i < 10; i++) {
            x.walker(i < 6 ? 1 : 3, i < 4 ? 10 : 20, 0, 9, 9);
        }
        Due.row("NIGHTS 0 to 3", Due.ints(x.crowd(1), x.crowd(2), x.crowd(3), x.crowd(4), x.crowd(60)), 0, 4, 4, 4, 4);
        x.run(3);
        Due.row("those that are DONE do not sleep", Due.ints(x.count(7), x.crowd(1), x.crowd(2)), 2, 4, 4);
        x.run(2);
        Due.row("all are DONE", Due.ints(x.count(7), x.crowd(1)), 10, 0);
        LongTrail y = new LongTrail();
        for (int i = 0; i < 10; i++) {
            y.walker(0, 10, 0, 9, 9);
        }
        Due.is("all ten", y.crowd(1), 10);
        Due.text(y, 0, 1, "quit 1");
        Due.text(y, 0, 2, "quit 0");
        Due.is("by the TEXTS: ten, then none", y.crowd(3), 10);
        y.run(1);
        Due.is("by the TEXTS: none", y.crowd(3), 0);
    }
}
