/**
 * The boundary cases of how a DAY goes by, (a) to (d) of "3 WALKERS". Each method tests one sentence of the document,
 * which it names.
 */
public final class DayEdgesTest {
    public static void main(String[] args) {
        startDays();
        asOneSetsOut();
        onlyThoseThatWalk();
        zeroDays();
        zeroComesFirst();
        boxesThatAreThere();
        boxesAtOneTownOnly();
        boxesOfOneWalkerOnly();
        postShut();
        carryAtMost();
        stayedThreeDays();
        stayedIsGone();
        givenOnAtThatTown();
        paceMiles();
        halfWithoutFood();
        notBeyondLength();
        notBeyondSnow();
        snowLastsAWeek();
        notBeyondFire();
        notBeyondTowns();
        theNearestOfAll();
        skipAsked();
        skipOnItsDays();
        skipTheLongest();
        skipIsTheWalk();
        skipNames();
        hungry();
        foodAtLeastNothing();
        paceGains();
        shoesWalked();
        dryCounts();
        whereItBegan();
        dryWithoutWater();
        thirsty();
        quitByLand();
        quitNames();
        quitGivesBoxesOn();
        doneAtTheEnd();
        doneGivesBoxesOn();
        quitAheadOfDone();
        byNumbers();
        bedsByNumbers();
        bedsOfKinds();
        outAndFined();
        campNames();
        whoSleeps();
        nextDay();
        Due.end("DayEdgesTest");
    }

    private static LongTrail with(int pace, int carry) {
        LongTrail x = new LongTrail();
        x.walker(0, pace, 0, carry, 99);
        return x;
    }

    private static void startDays() {
        Due.sentence("(a) WALKERS that WAIT whose START is this DAY or ahead of it WALK");
        LongTrail x = new LongTrail();
        x.walker(0, 1, 0, 9, 99);
        x.walker(1, 1, 0, 9, 99);
        x.walker(2, 1, 0, 9, 99);
        for (int day = 0; day < 3; day++) {
            x.run(1);
            for (int i = 0; i < 3; i++) {
                Due.row("START " + i + ", behind DAY " + day, Due.ints(x.is(i, 0), x.is(i, 1)), i <= day ? 1 : 0,
                        Math.max(0, day - i + 1));
            }
        }
        LongTrail late = new LongTrail();
        Due.runTo(late, 998);
        late.walker(999, 1, 0, 9, 99);
        late.run(1);
        late.keep();
        late.tell(1);
        late.tell(8);
        Due.row("START 999", Due.ints(late.is(0, 0), late.check(1)), 0, 0);
    }

    private static void asOneSetsOut() {
        Due.sentence("(a) .. MILE 0, FOOD CARRY.");
        for (int carry : new int[] {1, 20}) {
            LongTrail x = with(5, carry);
            Due.is("FOOD as it WAITS", x.is(0, 3), 0);
            x.run(1);
            Due.row("MILES, FOOD", Due.ints(x.is(0, 1), x.is(0, 3), x.is(0, 4)), 5, carry - 1, 0);
        }
    }

    private static void onlyThoseThatWalk() {
        Due.sentence("(b) WALKERS that WALK, by numbers, each");
        LongTrail x = new LongTrail();
        x.length(20);
        x.walker(0, 20, 0, 9, 9);
        x.walker(0, 5, 0, 9, 9);
        Due.text(x, 0, 0, "quit s=5");
        x.walker(60, 5, 0, 9, 9);
        x.run(1);
        int[] done = Due.walker(x, 0, 0, 14);
        int[] quit = Due.walker(x, 1, 0, 14);
        int[] waits = Due.walker(x, 2, 0, 14);
        Due.row("DONE, QUIT, WAITS", Due.ints(done[0], quit[0], waits[0]), 3, 2, 0);
        x.run(20);
        Due.row("DONE", Due.walker(x, 0, 0, 14), done);
        Due.row("QUIT", Due.walker(x, 1, 0, 14), quit);
        Due.row("WAITS", Due.walker(x, 2, 0, 14), waits);
    }

    private static void zeroDays() {
        Due.sentence("(1) with ZERO days left it has one less, and that is its DAY.");
        for (int zero : new int[] {0, 1, 2, 9}) {
            LongTrail x = with(5, 20);
            x.run(1);
            x.zero(0, zero);
            for (int i = 1; i <= zero; i++) {
                x.run(1);
                Due.row("ZERO days left", Due.ints(x.is(0, 9), x.is(0, 1), x.is(0, 3), x.is(0, 7), x.is(0, 8)),
                        zero - i, 5, 19, 1, 5);
            }
            x.run(1);
            Due.row("on again", Due.ints(x.is(0, 9), x.is(0, 1), x.is(0, 3), x.is(0, 7), x.is(0, 8)), 0, 10, 18, 2, 10);
        }
    }

    private static void zeroComesFirst() {
        Due.sentence("(1) with ZERO days left .. that is its DAY (no BOXES, no skip, no quit)");
        LongTrail x = new LongTrail();
        x.place(3, 10, 1);
        x.fire(10, 20, 9);
        x.walker(0, 10, 0, 5, 1);
        x.box(0, 0, 1, 0);
        x.run(1);
        x.zero(0, 1);
        Due.text(x, 0, 0, "skip 1");
        Due.text(x, 0, 0, "quit 1");
        x.run(1);
        Due.row("nothing but the night", Due.walker(x, 0, 0, 14), 1, 10, 10, 4, 0, 0, 0, 1, 10, 0, 0, 0, 0, 0, 1);
        x.run(1);
        Due.row("then all of it", Due.walker(x, 0, 0, 14), 2, 20, 10, 4, 0, 0, 0, 2, 10, 0, 0, 0, 0, 10, 0);
    }

    private static void boxesThatAreThere() {
        Due.sentence("(2) At a TOWN where it has OPEN BOXES: if one of them is there .., all that are there are TAKEN, FOOD is "
                + "as much more");
        LongTrail x = new LongTrail();
        x.place(3, 10, 1);
        x.walker(0, 10, 0, 20, 99);
        x.box(0, 0, 1, 0);
        x.box(0, 0, 2, 5);
        x.box(0, 0, 4, 6);
        x.run(1);
        x.zero(0, 4);
        x.run(5);
        Due.row("on DAY 5 those from DAY 5 on, not those from DAY 6 on", Due.ints(x.count(16), x.boxTold(0, 4),
                x.boxTold(1, 4), x.boxTold(2, 4), x.is(0, 1)), 6, 1, 1, 0, 20);
        Due.is("FOOD: 19 and 3, 20 at most, one eaten", x.is(0, 3), 19);
        LongTrail y = new LongTrail();
        y.place(3, 10, 1);
        y.walker(0, 10, 0, 20, 99);
        y.run(10);
        Due.is("it has gone by", y.is(0, 1), 100);
        LongTrail z = new LongTrail();
        z.place(3, 10, 1);
        z.walker(0, 1, 0, 20, 99);
        z.box(0, 0, 3, 0);
        z.box(0, 0, 2, 0);
        z.run(10);
        Due.row("FOOD 10", Due.ints(z.is(0, 1), z.is(0, 3)), 10, 10);
        z.run(1);
        Due.row("FOOD 10 and 5, one eaten", Due.ints(z.is(0, 1), z.is(0, 3), z.is(0, 14)), 11, 14, 0);
    }

    private static void boxesAtOneTownOnly() {
        Due.sentence("(2) At a TOWN where it has OPEN BOXES (there, not at another one)");
        LongTrail x = new LongTrail();
        x.place(3, 10, 1);
        x.place(3, 20, 1);
        x.walker(0, 10, 0, 9, 99);
        x.box(0, 1, 1, 0);
        x.run(2);
        Due.row("gone on", Due.ints(x.is(0, 1), x.is(0, 10), x.boxTold(0, 4)), 20, 0, 0);
        x.run(1);
        Due.row("TAKEN as the next DAY begins", Due.ints(x.is(0, 1), x.is(0, 10), x.boxTold(0, 4)), 30, 0, 1);
    }

    private static void boxesOfOneWalkerOnly() {
        Due.sentence("(2) At a TOWN where it has OPEN BOXES (its own)");
        LongTrail x = new LongTrail();
        x.place(3, 0, 1);
        x.walker(0, 10, 0, 9, 99);
        x.walker(0, 10, 0, 9, 99);
        x.walker(0, 10, 0, 9, 99);
        x.box(1, 0, 1, 99);
        x.box(2, 0, 1, 0);
        x.run(1);
        Due.row("MILES", Due.ints(x.is(0, 1), x.is(1, 1), x.is(2, 1)), 10, 0, 10);
        Due.row("BOXES", Due.ints(x.boxTold(0, 4), x.boxTold(1, 4), x.is(1, 10)), 0, 1, 1);
    }

    private static void postShut() {
        Due.sentence("(2) .. and the POST is not SHUT on the WEEKDAY");
        for (int weekday = 0; weekday < 7; weekday++) {
            LongTrail x = new LongTrail();
            x.place(3, 0, 1);
            x.place(3, 300, 1);
            x.shut(0, 127 - (1 << weekday));
            x.shut(1, 127);
            x.run(7);
            x.walker(7, 10, 0, 9, 99);
            x.box(0, 0, 1, 0);
            for (int stayed = 1; stayed <= Math.min(weekday, 3); stayed++) {
                x.run(1);
                Due.row("SHUT", Due.ints(x.is(0, 1), x.is(0, 10), x.boxTold(0, 4)), 0, stayed, 0);
            }
            x.run(1);
            Due.row("open on " + weekday, Due.ints(x.is(0, 1), x.is(0, 10), x.boxTold(0, 4)), 10, 0, weekday > 3 ? 2 : 1);
        }
    }

    private static void carryAtMost() {
        Due.sentence("(2) FOOD is as much more (CARRY at most)");
        int[] foods = {1, 2, 3, 20};
        int[] due = {2, 3, 3, 3};
        for (int i = 0; i < foods.length; i++) {
            LongTrail x = new LongTrail();
            x.place(3, 2, 1);
            x.walker(0, 1, 0, 4, 99);
            x.box(0, 0, foods[i], 0);
            x.run(2);
            Due.row("FOOD 2 of 4", Due.ints(x.is(0, 1), x.is(0, 3)), 2, 2);
            x.run(1);
            Due.is("with a BOX of " + foods[i] + ", one eaten", x.is(0, 3), due[i]);
        }
    }

    private static void stayedThreeDays() {
        Due.sentence("(2) else it has STAYED one DAY more, and if that is 3 at most, that is its DAY; else its OPEN BOXES at "
                + "that TOWN are GIVEN ON.");
        LongTrail x = new LongTrail();
        x.place(3, 10, 1);
        x.walker(0, 10, 0, 9, 99);
        x.box(0, 0, 1, 99);
        x.box(0, 0, 1, 4);
        x.run(1);
        x.keep();
        x.send(1, 0, 98);
        for (int stayed = 1; stayed <= 3; stayed++) {
            x.run(1);
            Due.row("STAYED", Due.walker(x, 0, 0, 10), 1, 10, 10, 8, 0, 0, 0, 1, 10, 0, stayed);
        }
        x.run(1);
        Due.row("GIVEN ON", Due.ints(x.boxTold(0, 4), x.boxTold(1, 4), x.is(0, 1), x.is(0, 10), x.is(0, 3)), 2, 2, 20, 0, 7);
        x.back();
        x.run(4);
        Due.row("one came on the 4th DAY", Due.ints(x.boxTold(0, 4), x.boxTold(1, 4), x.is(0, 1), x.is(0, 10), x.is(0, 3)),
                0, 1, 20, 0, 8);
    }

    private static void stayedIsGone() {
        Due.sentence("(Then, if its DAY is not over, STAYED is 0, of each that goes on to (3).)");
        LongTrail x = new LongTrail();
        x.place(3, 10, 1);
        x.place(3, 20, 1);
        x.walker(0, 10, 0, 9, 99);
        x.box(0, 0, 1, 3);
        x.box(0, 1, 1, 99);
        x.run(3);
        Due.row("STAYED 2", Due.ints(x.is(0, 1), x.is(0, 10)), 10, 2);
        x.run(1);
        Due.row("gone on with the BOX", Due.ints(x.is(0, 1), x.is(0, 10)), 20, 0);
        x.run(3);
        Due.row("3 DAYS at the next TOWN", Due.ints(x.is(0, 1), x.is(0, 10)), 20, 3);
        x.zero(0, 1);
        x.run(1);
        Due.row("a ZERO day is over", Due.ints(x.is(0, 1), x.is(0, 10)), 20, 3);
        x.send(1, 0, 0);
        x.run(1);
        Due.row("no BOXES there", Due.ints(x.is(0, 1), x.is(0, 10), x.boxTold(1, 4)), 30, 0, 0);
    }

    private static void givenOnAtThatTown() {
        Due.sentence("(2) else its OPEN BOXES at that TOWN are GIVEN ON");
        LongTrail x = new LongTrail();
        x.place(3, 0, 1);
        x.place(3, 300, 1);
        x.walker(0, 10, 0, 9, 99);
        x.walker(3, 10, 0, 9, 99);
        x.box(0, 0, 1, 50);
        x.box(0, 1, 1, 50);
        x.box(1, 0, 1, 50);
        x.run(4);
        Due.row("not those elsewhere, nor others'", Due.ints(x.boxTold(0, 4), x.boxTold(1, 4), x.boxTold(2, 4)), 2, 0, 0);
        LongTrail y = new LongTrail();
        y.place(3, 0, 1);
        y.walker(0, 10, 0, 9, 99);
        for (int i = 0; i < 20; i++) {
            y.box(0, 0, 1, 50);
        }
        y.run(3);
        Due.row("20 BOXES, 3 DAYS", Due.ints(y.is(0, 14), y.boxTold(0, 4), y.boxTold(19, 4)), 20, 0, 0);
        y.run(1);
        Due.row("20 BOXES, the 4th DAY", Due.ints(y.is(0, 14), y.boxTold(0, 4), y.boxTold(19, 4)), 0, 2, 2);
    }

    private static void paceMiles() {
        Due.sentence("(3) It walks PACE MILES");
        for (int pace : new int[] {1, 2, 39, 40}) {
            LongTrail x = with(pace, 20);
            x.run(3);
            Due.row("3 DAYS", Due.ints(x.is(0, 1), x.is(0, 8)), 3 * pace, 3 * pace);
        }
    }

    private static void halfWithoutFood() {
        Due.sentence("(3) or half of that without FOOD");
        int[] paces = {1, 2, 3, 9, 40};
        for (int pace : paces) {
            LongTrail x = with(pace, 1);
            x.run(1);
            Due.row("the last FOOD", Due.ints(x.is(0, 1), x.is(0, 3)), pace, 0);
            x.run(1);
            Due.is("half of " + pace, x.is(0, 1), pace + pace / 2);
            x.finds(0, 1);
            x.run(1);
            Due.is("with FOOD 1", x.is(0, 1), pace + pace / 2 + pace);
        }
    }

    private static void notBeyondLength() {
        Due.sentence("(3) but not beyond: LENGTH");
        int[] paces = {19, 20, 21, 40};
        for (int pace : paces) {
            LongTrail x = new LongTrail();
            x.length(20);
            x.walker(0, pace, 0, 9, 9);
            x.run(1);
            Due.row("PACE " + pace, Due.ints(x.is(0, 1), x.is(0, 8), x.is(0, 0)), Math.min(20, pace), Math.min(20, pace),
                    pace < 20 ? 1 : 3);
        }
    }

    private static void notBeyondSnow() {
        Due.sentence("(3) the first PASS with SNOW (..) at its MILE or farther on");
        LongTrail x = new LongTrail();
        x.place(4, 15, 0);
        x.place(4, 12, 0);
        x.place(4, 0, 0);
        x.walker(0, 10, 0, 20, 99);
        x.run(2);
        Due.row("at its MILE", Due.ints(x.is(0, 1), x.is(0, 7), x.is(0, 3)), 0, 2, 18);
        int[] paces = {11, 12, 13, 40};
        for (int pace : paces) {
            LongTrail y = new LongTrail();
            y.place(4, 15, 0);
            y.place(4, 12, 0);
            y.walker(0, pace, 0, 20, 99);
            y.run(1);
            Due.row("PACE " + pace, Due.ints(y.is(0, 1), y.is(0, 8)), Math.min(12, pace), Math.min(12, pace));
        }
        LongTrail z = with(13, 20);
        z.run(1);
        z.place(4, 12, 142);
        z.run(1);
        Due.is("one behind it does not matter", z.is(0, 1), 26);
    }

    private static void snowLastsAWeek() {
        Due.sentence("(3) SNOW (as long as WEEK is its a at most)");
        for (int a = 0; a < 2; a++) {
            LongTrail x = new LongTrail();
            x.place(4, 5, a);
            x.walker(0, 10, 0, 20, 99);
            x.run(7 * a + 7);
            Due.is("WEEK " + a, x.is(0, 1), 5);
            x.run(1);
            Due.is("WEEK " + (a + 1), x.is(0, 1), 15);
        }
        for (int kind : new int[] {2, 3, 5}) {
            LongTrail y = new LongTrail();
            y.place(kind, 5, 9);
            y.walker(0, 10, 0, 20, 99);
            y.run(1);
            Due.is("no SNOW on other KINDS", y.is(0, 1), 10);
        }
    }

    private static void notBeyondFire() {
        Due.sentence("(3) the first FIRE that is on whose first MILE is its own or farther on");
        LongTrail own = new LongTrail();
        own.fire(0, 5, 1);
        own.walker(0, 10, 0, 20, 99);
        own.run(2);
        Due.row("its own, on DAYS 0 and 1", Due.ints(own.is(0, 1), own.is(0, 7), own.is(0, 8)), 0, 2, 0);
        own.run(1);
        Due.is("not on DAY 2", own.is(0, 1), 10);
        for (int pace : new int[] {11, 12, 13}) {
            LongTrail x = new LongTrail();
            x.fire(15, 20, 0);
            x.fire(12, 30, 0);
            x.fire(11, 40, 1001);
            x.walker(0, pace, 0, 20, 99);
            x.run(1);
            Due.is("farther on, PACE " + pace, x.is(0, 1), Math.min(12, pace));
        }
        LongTrail in = with(10, 20);
        in.run(1);
        in.fire(9, 60, 99);
        in.run(1);
        Due.row("one that it is within does not matter", Due.ints(in.burns(20), in.is(0, 1)), 1, 20);
        in.fire(25, 26, 99);
        in.run(1);
        Due.is("the next one does", in.is(0, 1), 25);
    }

    private static void notBeyondTowns() {
        Due.sentence("(3) the first TOWN farther on where it has OPEN BOXES");
        for (int pace : new int[] {9, 10, 11}) {
            LongTrail x = new LongTrail();
            x.place(3, 15, 1);
            x.place(3, 10, 1);
            x.place(3, 5, 1);
            x.walker(0, pace, 0, 9, 99);
            x.walker(0, pace, 0, 9, 99);
            x.box(0, 0, 1, 99);
            x.box(0, 1, 1, 99);
            x.run(1);
            Due.row("PACE " + pace, Due.ints(x.is(0, 1), x.is(1, 1)), Math.min(10, pace), pace);
        }
        LongTrail here = new LongTrail();
        here.place(3, 0, 1);
        here.walker(0, 10, 0, 9, 99);
        here.box(0, 0, 1, 0);
        here.box(0, 0, 1, 99);
        here.run(1);
        Due.row("where it stands does not matter", Due.ints(here.is(0, 1), here.is(0, 14)), 10, 1);
        here.run(1);
        Due.is("nor one behind it", here.is(0, 1), 20);
        LongTrail taken = new LongTrail();
        taken.place(3, 10, 1);
        taken.walker(0, 20, 0, 9, 99);
        taken.box(0, 0, 1, 0);
        taken.run(1);
        taken.run(1);
        Due.is("nor one with TAKEN ones", taken.is(0, 1), 30);
    }

    private static void theNearestOfAll() {
        Due.sentence("(3) but not beyond: LENGTH; the first PASS ..; the first FIRE ..; the first TOWN ..");
        int[][] miles = {{11, 12, 13}, {12, 13, 11}, {13, 11, 12}};
        for (int[] m : miles) {
            LongTrail x = new LongTrail();
            x.length(20);
            x.place(4, m[0], 9);
            x.fire(m[1], 20, 99);
            x.place(3, m[2], 1);
            x.walker(0, 40, 0, 9, 99);
            x.box(0, 1, 1, 99);
            x.run(1);
            Due.is("the nearest", x.is(0, 1), 11);
        }
    }

    private static void skipAsked() {
        Due.sentence("(3) If it stands at the first MILE of a FIRE that is on, and skip of the LAND of its MILE is not 0 ..");
        for (int from : new int[] {9, 10, 11}) {
            LongTrail x = with(10, 20);
            x.run(1);
            x.fire(from, 50, 99);
            Due.text(x, 0, 0, "skip 1");
            x.run(1);
            Due.row("a FIRE from " + from + ", it is at 10", Due.ints(x.is(0, 1), x.is(0, 13)),
                    from == 9 ? 20 : from == 10 ? 50 : 11, from == 10 ? 40 : 0);
        }
        String[] answers = {"0", "1", "0-1", "9999"};
        for (String e : answers) {
            LongTrail x = new LongTrail();
            x.fire(0, 50, 99);
            Due.text(x, 0, 0, "skip " + e);
            x.walker(0, 10, 0, 20, 99);
            x.run(1);
            Due.is("skip " + e, x.is(0, 1), e.equals("0") ? 0 : 50);
        }
        LongTrail land = new LongTrail();
        land.fire(10, 50, 99);
        land.land(1, 10);
        land.land(2, 11);
        Due.text(land, 0, 0, "skip 1");
        Due.text(land, 2, 0, "skip 1");
        land.walker(0, 10, 0, 20, 99);
        land.run(2);
        Due.is("no TEXT of the LAND of its MILE", land.is(0, 1), 10);
        Due.text(land, 1, 0, "skip 1");
        land.run(1);
        Due.is("a TEXT of it", land.is(0, 1), 50);
    }

    private static void skipOnItsDays() {
        Due.sentence("(3) .. of a FIRE that is on");
        LongTrail x = new LongTrail();
        x.fire(0, 50, 1002);
        x.fire(10, 60, 0);
        x.fire(10, 60, 2003);
        Due.text(x, 0, 0, "skip 1");
        x.walker(0, 10, 0, 20, 99);
        x.walker(1, 10, 0, 20, 99);
        x.run(1);
        Due.is("not on DAY 0", x.is(0, 1), 10);
        x.run(1);
        Due.row("DAY 1: one is on, the other one no more", Due.ints(x.is(0, 1), x.is(1, 1)), 20, 50);
        LongTrail last = new LongTrail();
        last.fire(0, 50, 1);
        Due.text(last, 0, 1, "skip 1");
        last.walker(0, 10, 0, 20, 99);
        last.run(2);
        Due.row("on its last DAY", Due.ints(last.is(0, 1), last.is(0, 13)), 50, 50);
    }

    private static void skipTheLongest() {
        Due.sentence("(3) (asked once; l the MILES of that FIRE, of several such FIRES the longest one)");
        int[][] orders = {{20, 30, 40}, {40, 30, 20}, {30, 40, 20}};
        for (int[] to : orders) {
            LongTrail x = new LongTrail();
            for (int i = 0; i < 3; i++) {
                x.fire(10, to[i], 9);
            }
            x.fire(10, 60, 9999);
            x.fire(9, 70, 9);
            Due.text(x, 0, 1, "skip l=30");
            x.walker(0, 10, 0, 9, 99);
            x.run(1);
            Due.is("at the FIRES", x.is(0, 1), 9);
            LongTrail y = new LongTrail();
            for (int i = 0; i < 3; i++) {
                y.fire(10, to[i], 9);
            }
            y.fire(10, 60, 9999);
            Due.text(y, 0, 1, "skip l=30");
            y.walker(0, 10, 0, 9, 99);
            y.run(2);
            Due.row("to MILE 40", Due.ints(y.is(0, 1), y.is(0, 13)), 40, 30);
            LongTrail z = new LongTrail();
            for (int i = 0; i < 3; i++) {
                z.fire(10, to[i], 9);
            }
            Due.text(z, 0, 1, "skip l=20|l=10");
            z.walker(0, 10, 0, 9, 99);
            z.run(3);
            Due.row("not asked of shorter ones", Due.ints(z.is(0, 1), z.is(0, 13)), 10, 0);
        }
    }

    private static void skipIsTheWalk() {
        Due.sentence("(3) it is at the other end of that FIRE at once instead, SKIPPED these MILES more, and that is its walk (0 "
                + "MILES, no WATER on it).");
        LongTrail x = new LongTrail();
        x.place(1, 20, 0);
        x.place(1, 30, 0);
        x.place(4, 25, 142);
        x.place(3, 22, 1);
        x.fire(10, 30, 9);
        x.fire(30, 33, 9);
        Due.text(x, 0, 1, "skip 1");
        x.walker(0, 10, 0, 9, 9);
        x.run(1);
        x.box(0, 3, 1, 0);
        x.run(1);
        Due.row("at the other end", Due.walker(x, 0, 0, 14), 1, 30, 10, 7, 0, 2, 10, 2, 10, 0, 0, 2, 0, 20, 1);
        x.run(1);
        Due.row("SKIPPED more", Due.walker(x, 0, 0, 14), 1, 33, 10, 6, 0, 3, 10, 3, 10, 0, 0, 3, 0, 23, 1);
        LongTrail end = new LongTrail();
        end.length(20);
        end.fire(0, 20, 9);
        Due.text(end, 0, 0, "skip 1");
        end.walker(0, 1, 0, 9, 9);
        end.run(1);
        Due.row("up to LENGTH: DONE", Due.ints(end.is(0, 0), end.is(0, 1), end.is(0, 13), end.is(0, 8)), 3, 20, 20, 0);
    }

    private static void skipNames() {
        Due.sentence("of skip l how many MILES, f FOOD");
        String[] texts = {"skip l=7", "skip l=6", "skip f=9", "skip f=8"};
        for (int i = 0; i < texts.length; i++) {
            LongTrail x = new LongTrail();
            x.fire(0, 7, 9);
            Due.text(x, 0, 0, texts[i]);
            x.walker(0, 5, 0, 9, 9);
            x.run(1);
            Due.is(texts[i] + ", FOOD ahead of the day's meal", x.is(0, 13), i % 2 == 0 ? 7 : 0);
        }
    }

    private static void hungry() {
        Due.sentence("(4) HUNGRY is 1 more, if it has no FOOD, else 0");
        LongTrail x = with(10, 2);
        Due.text(x, 0, 0, "quit 0");
        int[] due = {0, 0, 1, 2, 3};
        for (int i = 0; i < due.length; i++) {
            x.run(1);
            Due.is("HUNGRY behind DAY " + i, x.is(0, 4), due[i]);
        }
        x.finds(0, 1);
        x.run(1);
        Due.row("with FOOD 1 it is 0", Due.ints(x.is(0, 4), x.is(0, 3)), 0, 0);
        x.run(1);
        Due.is("1 again", x.is(0, 4), 1);
    }

    private static void foodAtLeastNothing() {
        Due.sentence("(4) and FOOD 1 less (0 at least)");
        LongTrail x = with(10, 2);
        Due.text(x, 0, 0, "quit 0");
        int[] due = {1, 0, 0, 0};
        for (int i = 0; i < due.length; i++) {
            x.run(1);
            Due.is("FOOD behind DAY " + i, x.is(0, 3), due[i]);
        }
        Due.is("what is found comes to 0", x.finds(0, 1), 1);
    }

    private static void paceGains() {
        Due.sentence("(4) WALKED is 1 more; whenever 7 divides that, PACE is GAIN more (40 at most).");
        LongTrail x = new LongTrail();
        x.length(2000);
        x.walker(0, 30, 5, 20, 99);
        x.walker(0, 31, 5, 20, 99);
        x.walker(0, 36, 4, 20, 99);
        x.walker(0, 40, 5, 20, 99);
        x.walker(0, 1, 0, 20, 99);
        x.run(6);
        Due.row("6 DAYS", Due.ints(x.is(0, 7), x.is(0, 2), x.is(1, 2), x.is(2, 2), x.is(3, 2), x.is(4, 2)),
                6, 30, 31, 36, 40, 1);
        x.run(1);
        Due.row("7 DAYS", Due.ints(x.is(0, 7), x.is(0, 2), x.is(1, 2), x.is(2, 2), x.is(3, 2), x.is(4, 2)),
                7, 35, 36, 40, 40, 1);
        Due.is("the 7th DAY was of the old PACE", x.is(0, 1), 210);
        x.zero(0, 7);
        x.run(7);
        Due.row("ZERO days are not WALKED; 14 DAYS", Due.ints(x.is(0, 7), x.is(0, 2), x.is(1, 7), x.is(1, 2), x.is(2, 2)),
                7, 35, 14, 40, 40);
        x.run(6);
        Due.row("13 DAYS", Due.ints(x.is(0, 7), x.is(0, 2)), 13, 35);
        x.run(1);
        Due.row("14 DAYS", Due.ints(x.is(0, 7), x.is(0, 2)), 14, 40);
    }

    private static void shoesWalked() {
        Due.sentence("(4) SHOES is more by the MILES walked.");
        LongTrail x = new LongTrail();
        x.place(4, 25, 0);
        x.walker(0, 10, 0, 20, 99);
        int[] due = {10, 20, 25, 25};
        for (int i = 0; i < due.length; i++) {
            x.run(1);
            Due.is("SHOES behind DAY " + i, x.is(0, 8), due[i]);
        }
    }

    private static void dryCounts() {
        Due.sentence("(4) DRY: MILES since the last WATER (HUTS, TOWNS, CAMPS, too) that it passed, or stands at, in this walk");
        for (int kind = 0; kind < 6; kind++) {
            boolean water = kind != 0 && kind != 4;
            int a = kind == 0 || kind == 1 || kind == 4 ? 0 : 1;
            for (int mile = 18; mile <= 21; mile++) {
                LongTrail x = new LongTrail();
                x.walker(0, 10, 0, 20, 99);
                x.run(1);
                x.place(kind, mile, a);
                x.place(0, 11, 0);
                x.run(1);
                int at = x.is(0, 1);
                Due.is("KIND " + kind + " at " + mile + ", it is at " + at, x.is(0, 6), water && mile <= 20 ? 20 - mile : at);
            }
        }
        LongTrail two = new LongTrail();
        two.place(1, 7, 0);
        two.place(1, 3, 0);
        two.walker(0, 10, 0, 20, 99);
        two.run(1);
        Due.is("the last of two", two.is(0, 6), 3);
    }

    private static void whereItBegan() {
        Due.sentence("(4) .. in this walk (where it began not counted)");
        LongTrail x = new LongTrail();
        x.place(1, 0, 0);
        x.place(1, 10, 0);
        x.place(4, 15, 0);
        x.walker(0, 10, 0, 20, 99);
        x.run(1);
        Due.is("it stands at WATER", x.is(0, 6), 0);
        x.run(1);
        Due.is("5 MILES from it", x.is(0, 6), 5);
        LongTrail y = new LongTrail();
        y.place(1, 0, 0);
        y.fire(0, 9, 0);
        y.walker(0, 10, 0, 20, 99);
        y.run(1);
        Due.is("0 MILES", y.is(0, 6), 0);
        y.run(1);
        Due.is("10 MILES", y.is(0, 6), 10);
        LongTrail z = with(10, 20);
        z.run(1);
        z.place(1, 10, 0);
        z.zero(0, 1);
        z.run(1);
        Due.is("WATER that came where it stands", z.is(0, 6), 10);
        z.run(1);
        Due.is("does not count as it goes on", z.is(0, 6), 20);
    }

    private static void dryWithoutWater() {
        Due.sentence("(4) without one as many more as it walked");
        LongTrail x = new LongTrail();
        x.place(4, 25, 0);
        x.walker(0, 10, 0, 20, 99);
        int[] due = {10, 20, 25, 25};
        for (int i = 0; i < due.length; i++) {
            x.run(1);
            Due.is("DRY behind DAY " + i, x.is(0, 6), due[i]);
        }
    }

    private static void thirsty() {
        Due.sentence("(4) THIRSTY is 1 more, if DRY is above SKIN.");
        for (int skin : new int[] {9, 10, 11, 19, 20, 21}) {
            LongTrail x = new LongTrail();
            x.walker(0, 10, 0, 20, skin);
            x.run(1);
            Due.is("DRY 10, SKIN " + skin, x.is(0, 5), 10 > skin ? 1 : 0);
            x.run(1);
            Due.is("DRY 20, SKIN " + skin, x.is(0, 5), (10 > skin ? 1 : 0) + (20 > skin ? 1 : 0));
        }
        LongTrail y = new LongTrail();
        y.place(1, 20, 0);
        y.walker(0, 10, 0, 20, 5);
        y.run(2);
        Due.row("it is not 0 again with WATER", Due.ints(y.is(0, 5), y.is(0, 6)), 1, 0);
        LongTrail z = new LongTrail();
        z.place(4, 10, 0);
        z.walker(0, 10, 0, 20, 5);
        z.run(3);
        Due.row("1 more each DAY, with 0 MILES, too", Due.ints(z.is(0, 5), z.is(0, 6)), 3, 10);
    }

    private static void quitByLand() {
        Due.sentence("(5) If quit of the LAND of its MILE is not 0 it QUITS");
        for (int begin : new int[] {9, 10, 11}) {
            LongTrail x = with(10, 20);
            x.land(1, begin);
            Due.text(x, 1, 0, "quit 0-1");
            x.run(1);
            Due.row("LAND 1 from " + begin + ", it comes to 10", Due.ints(x.is(0, 0), x.is(0, 1)), begin <= 10 ? 2 : 1, 10);
        }
        LongTrail y = with(10, 20);
        Due.text(y, 0, 0, "quit 0");
        y.run(1);
        Due.is("quit 0", y.is(0, 0), 1);
        LongTrail z = with(10, 20);
        Due.text(z, 0, 1, "quit 1");
        z.run(1);
        Due.is("not in force on DAY 0", z.is(0, 0), 1);
        z.run(1);
        Due.is("in force on DAY 1", z.is(0, 0), 2);
    }

    private static void quitNames() {
        Due.sentence("of quit h HUNGRY, t THIRSTY, s SHOES, w WALKED (as they are behind (4))");
        String[] names = {"h", "t", "s", "w"};
        int[] due = {1, 2, 25, 3};
        for (int i = 0; i < 4; i++) {
            for (int d = -1; d <= 1; d++) {
                LongTrail x = new LongTrail();
                x.walker(0, 10, 0, 2, 15);
                Due.text(x, 0, 2, "quit " + names[i] + "=" + (due[i] + d));
                x.run(3);
                Due.row("HUNGRY 1, THIRSTY 2, SHOES 25, WALKED 3", Due.walker(x, 0, 4, 8), 1, 2, 25, 3, 25);
                Due.is(names[i] + "=" + (due[i] + d), x.is(0, 0), d == 0 ? 2 : 1);
            }
        }
    }

    private static void quitGivesBoxesOn() {
        Due.sentence("(5) it QUITS: its OPEN BOXES are GIVEN ON");
        LongTrail x = new LongTrail();
        x.place(3, 0, 1);
        x.place(3, 300, 1);
        x.walker(0, 10, 0, 9, 9);
        x.walker(9, 10, 0, 9, 9);
        x.box(0, 0, 1, 0);
        x.box(0, 1, 1, 0);
        x.box(0, 1, 1, 99);
        x.box(1, 1, 1, 0);
        Due.text(x, 0, 0, "quit 1");
        x.run(1);
        quitWithTwentyBoxes();
        Due.row("TAKEN stays TAKEN, others' stay OPEN", Due.ints(x.boxTold(0, 4), x.boxTold(1, 4), x.boxTold(2, 4),
                x.boxTold(3, 4), x.is(0, 14), x.is(1, 14)), 1, 2, 2, 0, 0, 1);
    }

    private static void quitWithTwentyBoxes() {
        LongTrail x = new LongTrail();
        x.place(3, 300, 1);
        x.walker(0, 10, 0, 9, 9);
        for (int i = 0; i < 20; i++) {
            x.box(0, 0, 1, i);
        }
        Due.text(x, 0, 0, "quit 1");
        x.run(1);
        for (int i = 0; i < 20; i++) {
            Due.is("BOX " + i + " of 20", x.boxTold(i, 4), 2);
        }
    }

    private static void doneAtTheEnd() {
        Due.sentence("(5) else with MILE LENGTH it is DONE");
        LongTrail x = new LongTrail();
        x.length(20);
        x.walker(0, 19, 0, 9, 9);
        x.run(1);
        Due.row("a MILE ahead of it", Due.ints(x.is(0, 0), x.is(0, 1)), 1, 19);
        x.run(1);
        Due.row("at it", Due.ints(x.is(0, 0), x.is(0, 1), x.is(0, 11)), 3, 20, 1);
    }

    private static void doneGivesBoxesOn() {
        Due.sentence("(5) else with MILE LENGTH it is DONE (likewise)");
        LongTrail x = new LongTrail();
        x.length(20);
        x.place(3, 0, 1);
        x.place(3, 20, 1);
        x.walker(0, 20, 0, 9, 9);
        x.walker(9, 20, 0, 9, 9);
        x.box(0, 0, 1, 0);
        x.box(0, 0, 1, 99);
        x.box(0, 1, 1, 0);
        x.box(1, 0, 1, 0);
        x.run(1);
        Due.row("its OPEN BOXES are GIVEN ON", Due.ints(x.is(0, 0), x.boxTold(0, 4), x.boxTold(1, 4), x.boxTold(2, 4),
                x.boxTold(3, 4)), 3, 1, 2, 2, 0);
    }

    private static void quitAheadOfDone() {
        Due.sentence("(5) If quit .. is not 0 it QUITS ..; else with MILE LENGTH it is DONE");
        LongTrail x = new LongTrail();
        x.length(20);
        x.land(1, 20);
        Due.text(x, 1, 0, "quit w=1");
        x.walker(0, 20, 0, 9, 9);
        x.walker(0, 10, 0, 9, 9);
        x.run(2);
        Due.row("QUIT at the end, DONE", Due.ints(x.is(0, 0), x.is(0, 1), x.is(1, 0)), 2, 20, 3);
    }

    private static void byNumbers() {
        Due.sentence("(c) .. the least numbers first");
        LongTrail x = new LongTrail();
        x.place(2, 10, 1);
        x.walker(1, 10, 0, 9, 9);
        x.walker(0, 10, 0, 9, 9);
        x.run(1);
        x.zero(1, 1);
        x.run(1);
        Due.row("0 has the bed, though 1 was there first", Due.ints(x.is(0, 11), x.is(1, 11)), 0, 1);
    }

    private static void bedsByNumbers() {
        Due.sentence("(c) in what is there (HUT, TOWN, CAMP) as many as may, the least numbers first; others have OUT 1 more");
        for (int beds : new int[] {1, 2, 8, 9}) {
            LongTrail x = new LongTrail();
            x.place(5, 10, beds);
            for (int i = 0; i < 10; i++) {
                x.walker(0, 10, 0, 9, 99);
            }
            x.run(1);
            for (int i = 0; i < 10; i++) {
                Due.is("OUT of " + i + " with " + beds + " beds", x.is(i, 11), i < beds ? 0 : 1);
            }
        }
    }

    private static void bedsOfKinds() {
        Due.sentence("(c) in what is there (HUT, TOWN, CAMP)");
        for (int kind = 0; kind < 6; kind++) {
            boolean beds = kind == 2 || kind == 3 || kind == 5;
            LongTrail x = new LongTrail();
            x.place(kind, 10, beds ? 2 : kind == 4 ? 5 : 0);
            x.walker(0, 10, 0, 9, 99);
            x.walker(0, 9, 0, 9, 99);
            x.run(1);
            Due.row("at KIND " + kind + ", and a MILE ahead of it", Due.ints(x.is(0, 11), x.is(1, 11)), beds ? 0 : 1, 1);
        }
    }

    private static void outAndFined() {
        Due.sentence("(c) Each of those OUT where camp of the LAND of its MILE is 0 .. has FINED 1 more.");
        for (int begin : new int[] {9, 10, 11}) {
            LongTrail x = new LongTrail();
            x.place(2, 10, 1);
            x.land(1, begin);
            Due.text(x, 1, 0, "camp 0");
            x.walker(0, 10, 0, 9, 99);
            x.walker(0, 10, 0, 9, 99);
            x.walker(0, 10, 0, 9, 99);
            x.run(1);
            int fined = begin <= 10 ? 1 : 0;
            Due.row("LAND 1 from " + begin, Due.ints(x.is(0, 12), x.is(1, 12), x.is(2, 12)), 0, fined, fined);
        }
        LongTrail y = with(10, 9);
        Due.text(y, 0, 0, "camp 0-1");
        y.run(1);
        Due.row("camp is not 0", Due.ints(y.is(0, 11), y.is(0, 12)), 1, 0);
    }

    private static void campNames() {
        Due.sentence("of camp m the MILE, n how many sleep at it .. (n: all that sleep at that MILE)");
        String[] texts = {"camp m-10", "camp m-9", "camp n-3", "camp n-2", "camp n-1", "camp n-4"};
        for (int i = 0; i < texts.length; i++) {
            LongTrail x = new LongTrail();
            x.place(2, 10, 1);
            Due.text(x, 0, 0, texts[i]);
            x.walker(0, 10, 0, 9, 99);
            x.walker(0, 10, 0, 9, 99);
            x.walker(0, 10, 0, 9, 99);
            x.walker(0, 11, 0, 9, 99);
            x.walker(1, 10, 0, 9, 99);
            x.run(1);
            int fined = i == 0 || i == 2 ? 1 : 0;
            Due.row(texts[i], Due.ints(x.is(0, 12), x.is(1, 12), x.is(2, 12), x.is(3, 12)), 0, fined, fined, i == 4 ? 1 : 0);
        }
    }

    private static void whoSleeps() {
        Due.sentence("(c) NIGHT: of WALKERS that WALK those at one MILE sleep there");
        LongTrail x = new LongTrail();
        x.length(20);
        x.place(3, 20, 1);
        x.place(2, 10, 1);
        x.place(5, 0, 1);
        Due.text(x, 0, 0, "quit w=2");
        x.walker(9, 10, 0, 9, 99);
        x.walker(0, 20, 0, 9, 99);
        x.walker(0, 10, 0, 9, 99);
        x.walker(0, 9, 0, 9, 99);
        x.run(1);
        Due.row("one that WAITS or is DONE does not", Due.ints(x.is(0, 11), x.is(1, 11), x.is(2, 11), x.is(3, 11)), 0, 0, 0, 1);
        x.run(1);
        Due.row("one that QUIT does not", Due.ints(x.is(2, 11), x.is(3, 0), x.is(3, 11)), 0, 2, 1);
        LongTrail y = new LongTrail();
        y.place(2, 10, 1);
        Due.text(y, 0, 1, "quit w=1");
        y.walker(1, 10, 0, 9, 99);
        y.walker(1, 10, 0, 9, 99);
        y.walker(0, 10, 0, 9, 99);
        y.run(1);
        y.zero(2, 9);
        y.run(1);
        Due.row("those that QUIT leave the bed", Due.ints(y.is(0, 0), y.is(1, 0), y.is(2, 11)), 2, 2, 0);
    }

    private static void nextDay() {
        Due.sentence("(d) The next DAY is open.");
        LongTrail x = new LongTrail();
        x.fire(0, 9, 1001);
        x.run(1);
        Due.row("DAY 1", Due.ints(x.count(16), x.burns(0)), 1, 1);
        x.run(1);
        Due.row("DAY 2", Due.ints(x.count(16), x.burns(0)), 2, 0);
    }
}
