import java.util.function.Consumer;

/**
 * What an image keeps, and what days would bring: an object that was changed and went back is compared with a twin that
 * was not changed, and what crowd and check foretell with what comes as the days go by.
 */
public final class ImageTwinTest {
    public static void main(String[] args) {
        backFromChanges();
        backFromFull();
        nothingIsLeftBehind();
        crowdAsItComes();
        daysAsTheyCome();
        Due.end("ImageTwinTest");
    }

    private static void same(String name, Consumer<LongTrail> making, Consumer<LongTrail> twinMaking) {
        for (int i = 0; i < Twins.TELLING.size(); i++) {
            LongTrail x = new LongTrail();
            making.accept(x);
            LongTrail twin = new LongTrail();
            twinMaking.accept(twin);
            Due.row(name + ", tells " + i, Twins.TELLING.get(i).apply(x), Twins.TELLING.get(i).apply(twin));
        }
    }

    private static void backFromChanges() {
        Due.sentence("AN IMAGE keeps all but SHEETS, numbers that wait, THE TAPE; all can become as it is (again and again).");
        for (int days : new int[] {0, 3, 20}) {
            same("back, kept " + days + " DAYS later", x -> {
                keptLater(x, days);
                change(x);
                x.back();
                Due.tape(x, "camp m>5");
            }, x -> {
                keptLater(x, days);
                Due.tape(x, "camp m>5");
            });
            same("back twice, kept " + days + " DAYS later", x -> {
                keptLater(x, days);
                x.run(7);
                x.back();
                change(x);
                x.back();
                Due.tape(x, "camp m>5");
            }, x -> {
                keptLater(x, days);
                Due.tape(x, "camp m>5");
            });
        }
    }

    private static void keptLater(LongTrail x, int days) {
        Twins.ofEverything(x);
        if (days > 0) {
            x.run(days);
        }
        x.keep();
    }

    private static void change(LongTrail x) {
        x.shoes(0);
        x.finds(0, 20);
        x.finds(1, 20);
        x.zero(1, 9);
        x.send(1, 6, 9);
        x.send(3, 4, 0);
        x.place(3, 10, 1);
        x.place(5, 11, 1);
        x.shut(3, 127);
        x.shut(6, 0);
        x.land(1, 2);
        x.land(2, 10);
        x.land(3, Due.NONE);
        x.fire(1, 60, 999);
        x.fire(2, 9, 999);
        Due.text(x, 0, 0, "quit w>30");
        Due.text(x, 1, 0, "draw 0-d");
        x.walker(x.count(16), 40, 5, 1, 1);
        x.box(4, 3, 20, 99);
        for (int weekday = 0; weekday < 7; weekday++) {
            x.quota(weekday, 9 - weekday);
        }
        x.wish(999, 9);
        x.cost(99);
        x.ride(3, 4, 1);
        x.ride(4, 6, 1);
        x.picture(999, 60);
        x.run(1);
        x.finds(0, 20);
        x.run(45);
    }

    private static void backFromFull() {
        Due.sentence("all can become as it is (from full tables to those of THE IMAGE)");
        same("back from full", x -> {
            keptLater(x, 0);
            fill(x);
            x.back();
            Due.tape(x, "camp m>5");
        }, x -> {
            keptLater(x, 0);
            Due.tape(x, "camp m>5");
        });
    }

    private static void nothingIsLeftBehind() {
        Due.sentence("all can become as it is (and what comes then is as on a new object)");
        same("all anew", x -> {
            x.keep();
            fill(x);
            x.run(30);
            x.crowd(60);
            x.proved(99, 0);
            x.granted(0);
            x.plan(40, 20, 0);
            x.minutes(0, 12);
            x.back();
            Twins.ofEverything(x);
        }, x -> {
            x.keep();
            Twins.ofEverything(x);
        });
        LongTrail x = new LongTrail();
        x.keep();
        fill(x);
        Due.is("PROVED", x.proved(99, 0), 1);
        x.back();
        Due.row("none is PROVED then", Due.ints(x.proved(99, 0), x.proved(99, 1), x.proved(99, 2), x.would(9)), 0, 0, Due.NONE, 0);
    }

    /** Fills all tables, as far as they have room, and lets numbers of all walkers rise. */
    private static void fill(LongTrail x) {
        for (int i = 0; i < 16; i++) {
            x.place(3, 1 + 3 * i, 9);
            x.shut(i, 127);
        }
        Due.text(x, 0, 0, "quit 0");
        Due.text(x, 0, 0, "camp 0");
        Due.text(x, 0, 0, "skip 1");
        for (int i = 0; i < 9; i++) {
            Due.text(x, 3, 999, "draw 1");
        }
        for (int i = 0; i < 10; i++) {
            x.walker(x.count(16), 2, 5, 1, 1);
        }
        x.fire(5, 9, 999);
        for (int i = 0; i < 5; i++) {
            x.fire(50 + i, 60, 999);
        }
        for (int i = 0; i < 20; i++) {
            x.box(i % 10, i % 16, 20, 99);
            x.picture(999, i);
        }
        for (int i = 0; i < 16; i++) {
            x.wish(999, 9);
        }
        for (int i = 0; i < 12; i++) {
            x.ride(0, 1 + i, 999);
        }
        x.run(20);
        for (int i = 0; i < 10; i++) {
            x.zero(i, 9);
        }
    }

    private static final int STATES = 4;

    private static LongTrail state(int number) {
        LongTrail x = new LongTrail();
        if (number == 0) {
            Twins.ofEverything(x);
        } else if (number == 1) {
            fires(x);
        } else if (number == 2) {
            towns(x);
        } else {
            tenByLaws(x);
        }
        return x;
    }

    private static void fires(LongTrail x) {
        x.length(200);
        x.land(1, 50);
        x.fire(10, 30, 5);
        x.fire(10, 22, 9);
        x.fire(70, 90, 4010);
        x.fire(120, 150, 9030);
        x.place(1, 60, 0);
        x.place(4, 100, 1);
        Due.text(x, 0, 2, "skip f<19");
        Due.text(x, 1, 0, "skip l=20");
        Due.text(x, 1, 0, "quit t>6");
        for (int i = 0; i < 6; i++) {
            x.walker(i, 6 + 2 * i, i, 20 - i, 30 + 9 * i);
        }
    }

    private static void towns(LongTrail x) {
        x.length(150);
        for (int i = 0; i < 6; i++) {
            x.place(3, 20 * i, 1 + i);
            x.shut(i, 9 << i & 127);
        }
        for (int i = 0; i < 5; i++) {
            x.walker(2 * i, 5 + i, 1, 4 + i, 40);
            x.box(i, i, 5 - i, 3 * i);
            x.box(i, i + 1, 5, 5 * i);
            x.box(4 - i, i, 2 + i, 20);
        }
        x.run(6);
        x.zero(0, 2);
        x.send(2, 5, 3);
    }

    private static void tenByLaws(LongTrail x) {
        x.length(100);
        x.land(1, 25);
        x.land(3, 60);
        x.place(5, 30, 3);
        x.place(2, 60, 2);
        Due.text(x, 0, 0, "quit w>4&s>20");
        Due.text(x, 1, 3, "quit s=40");
        Due.text(x, 3, 0, "quit h>5");
        Due.text(x, 1, 0, "camp n<3");
        for (int i = 0; i < 10; i++) {
            x.walker(i % 3, 5 + 5 * (i % 4), 0, 3 + i, 99);
        }
    }

    private static void crowdAsItComes() {
        Due.sentence("CROWD of n DAYS: the most that sleep at one MILE in a NIGHT of the n next DAYS, if they went by now.");
        for (int number = 0; number < STATES; number++) {
            LongTrail x = state(number);
            int most = 0;
            for (int n = 1; n <= 25; n++) {
                most = Math.max(most, mostAtOneMile(stateLater(number, n)));
                Due.is("CROWD of " + n + " DAYS in state " + number, x.crowd(n), most);
            }
            Due.is("somebody sleeps in state " + number, most > 1 ? 1 : 0, 1);
        }
    }

    /** The days go by one by one. */
    private static LongTrail stateLater(int number, int days) {
        LongTrail x = state(number);
        for (int i = 0; i < days; i++) {
            x.run(1);
        }
        return x;
    }

    private static int mostAtOneMile(LongTrail x) {
        int[] at = new int[2001];
        int most = 0;
        int walkers = x.count(3);
        for (int i = 0; i < walkers; i++) {
            int mile = x.is(i, 1);
            at[mile] += x.is(i, 0) == 1 ? 1 : 0;
            most = Math.max(most, at[mile]);
        }
        return most;
    }

    private static void daysAsTheyCome() {
        Due.sentence("THE DAYS TOLD: MILES of all WALKERS together, and FOOD of all, behind each of n DAYS from THE IMAGE on");
        for (int number = 0; number < STATES; number++) {
            for (int n : new int[] {1, 2, 8, 20, 30}) {
                LongTrail x = state(number);
                x.check(1);
                x.keep();
                for (int day = 1; day <= n; day++) {
                    LongTrail twin = stateLater(number, day);
                    x.tell(together(twin, 1));
                    x.tell(together(twin, 3));
                }
                Due.is(n + " DAYS of state " + number, x.check(n), 0);
            }
        }
    }

    private static int together(LongTrail x, int what) {
        int all = 0;
        int walkers = x.count(3);
        for (int i = 0; i < walkers; i++) {
            all += x.is(i, what);
        }
        return all;
    }
}
