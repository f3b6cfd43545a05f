import java.util.Arrays;

/** A trail of two thousand miles and those who walk it; DOC.md tells every promise of it. */
public final class LongTrail {
    public static final int BAD = -1000000001, NO = -1000000002, FULL = -1000000003, NONE = -1000000005,
            NOTHING = -1000000011, KIND = -1000000012, INDEX = -1000000013, SIZE = -1000000014;

    private static final int LAST_DAY = 999;
    private static final int MOST_WAITING = 60;

    // All rows are made here once: no call may fill the one room that a run has.
    private final World now = new World();
    private final World image = new World();
    private final World trial = new World();
    private final Tape tape = new Tape();
    private final Sheet[] sheets = {new Sheet(), new Sheet(), new Sheet(), new Sheet()};
    private final int[] waiting = new int[MOST_WAITING];
    private int waits;
    private boolean kept;

    public LongTrail() {
    }

    // ---- the trail

    public int length(int v) {
        if (!within(v, 20, 2000)) {
            return BAD;
        }
        if (now.walkerCount > 0 || now.ground.reachesBeyond(v) || now.album.reachesBeyond(v)) {
            return NO;
        }
        int before = now.ground.length;
        now.ground.length = v;
        return before;
    }

    public int place(int kind, int mile, int a) {
        Ground ground = now.ground;
        if (!within(kind, 0, Ground.LAST_KIND) || !ground.hasMile(mile) || !Ground.suits(kind, a)) {
            return BAD;
        }
        if (ground.placeAt(mile) >= 0) {
            return NO;
        }
        if (ground.places >= Ground.MOST_PLACES) {
            return FULL;
        }
        return ground.addPlace(kind, mile, a);
    }

    public int told(int place, int what) {
        Ground ground = now.ground;
        if (!ground.hasPlace(place)) {
            return BAD;
        }
        switch (what) {
            case 0:
                return ground.kinds[place];
            case 1:
                return ground.miles[place];
            case 2:
                return ground.numbers[place];
            case 3:
                return ground.shuts[place];
            case 4:
                return now.walkingAt(ground.miles[place]);
            case 5:
                return now.post.openIn(place);
            default:
                return BAD;
        }
    }

    public int as(int place, int kind) {
        if (!now.ground.hasPlace(place) || !within(kind, 0, Ground.LAST_KIND)) {
            return BAD;
        }
        return now.ground.isOf(place, kind) ? now.ground.numbers[place] : KIND;
    }

    public int shut(int place, int v) {
        Ground ground = now.ground;
        if (!ground.hasPlace(place) || !within(v, 0, 127)) {
            return BAD;
        }
        if (!ground.isTown(place)) {
            return KIND;
        }
        int before = ground.shuts[place];
        ground.shuts[place] = v;
        return before;
    }

    public int land(int land, int mile) {
        Ground ground = now.ground;
        if (!within(land, 1, Ground.LAST_LAND) || mile != NONE && !ground.hasMile(mile)) {
            return BAD;
        }
        int before = ground.begins[land];
        ground.begins[land] = mile;
        return before;
    }

    public int landAt(int mile) {
        return now.ground.hasMile(mile) ? now.ground.landOf(mile) : BAD;
    }

    public int fire(int from, int to, int days) {
        Ground ground = now.ground;
        if (!ground.hasMile(from) || !ground.hasMile(to) || to <= from) {
            return BAD;
        }
        if (!within(days, 0, 1000 * LAST_DAY + LAST_DAY) || days % 1000 < days / 1000) {
            return BAD;
        }
        if (ground.fires >= Ground.MOST_FIRES) {
            return FULL;
        }
        return ground.addFire(from, to, days / 1000, days % 1000);
    }

    public int burns(int mile) {
        if (!now.ground.hasMile(mile)) {
            return BAD;
        }
        return now.ground.isShutAt(mile, now.day) ? 1 : 0;
    }

    public int dry(int mile) {
        if (!now.ground.hasMile(mile)) {
            return BAD;
        }
        int water = now.ground.nextWater(mile);
        return water < 0 ? NONE : water - mile;
    }

    // ---- texts

    public int feed(int a, int b, int c) {
        if (tape.size + 12 > Tape.MOST_BYTES) {
            return FULL;
        }
        tape.append(a);
        tape.append(b);
        tape.append(c);
        return tape.size;
    }

    public int trim(int n) {
        if (!within(n, 0, tape.size)) {
            return BAD;
        }
        tape.size = n;
        return n;
    }

    public int text(int land, int day) {
        boolean bad = !within(land, 0, Ground.LAST_LAND) || !within(day, 0, LAST_DAY);
        int fault = bad ? -1 : tape.readText();
        tape.size = 0;
        if (bad) {
            return BAD;
        }
        if (fault >= 0) {
            return -100 - fault;
        }
        if (now.laws.size >= Laws.MOST_TEXTS) {
            return FULL;
        }
        return now.laws.add(tape.textFor(land, day));
    }

    public int of(int text, int what) {
        Text told = now.laws.textOf(text);
        if (told == null) {
            return BAD;
        }
        switch (what) {
            case 0:
                return told.key;
            case 1:
                return told.land;
            case 2:
                return told.day;
            case 3:
                return told.operands;
            default:
                return BAD;
        }
    }

    public int why(int land, int key) {
        if (!within(land, 0, Ground.LAST_LAND) || !within(key, 0, Laws.LAST_KEY)) {
            return BAD;
        }
        int text = now.laws.countingText(land, key, now.day);
        return text < 0 ? NONE : text;
    }

    // ---- walkers

    public int walker(int start, int pace, int gain, int carry, int skin) {
        if (!within(start, now.day, LAST_DAY) || !within(pace, 1, Walker.MOST_PACE) || !within(gain, 0, 5)) {
            return BAD;
        }
        if (!within(carry, 1, 20) || !within(skin, 1, 99)) {
            return BAD;
        }
        if (now.walkerCount >= World.MOST_WALKERS) {
            return FULL;
        }
        now.walkers[now.walkerCount].comeNew(start, pace, gain, carry, skin);
        now.walkerCount++;
        return now.walkerCount - 1;
    }

    public int is(int walker, int what) {
        if (!now.hasWalker(walker) || !within(what, 0, Walker.LAST_TOLD + 1)) {
            return BAD;
        }
        return what > Walker.LAST_TOLD ? now.post.openOf(walker) : now.walkers[walker].toldOf(what);
    }

    public int shoes(int walker) {
        if (!now.hasWalker(walker)) {
            return BAD;
        }
        Walker of = now.walkers[walker];
        int place = now.ground.placeAt(of.mile);
        if (of.state != Walker.WALKS || place < 0 || !now.ground.isTown(place)) {
            return NO;
        }
        int before = of.shoes;
        of.shoes = 0;
        return before;
    }

    public int zero(int walker, int n) {
        if (!now.hasWalker(walker) || !within(n, 0, 9)) {
            return BAD;
        }
        Walker of = now.walkers[walker];
        if (of.state != Walker.WALKS) {
            return NO;
        }
        int before = of.zero;
        of.zero = n;
        return before;
    }

    public int finds(int walker, int n) {
        if (!now.hasWalker(walker) || !within(n, 1, 20)) {
            return BAD;
        }
        Walker of = now.walkers[walker];
        if (of.state != Walker.WALKS) {
            return NO;
        }
        of.packFood(n);
        return of.food;
    }

    public int box(int walker, int place, int food, int n) {
        if (!now.hasWalker(walker) || !now.ground.hasPlace(place) || !within(food, 1, 20) || !within(n, 0, 99)) {
            return BAD;
        }
        if (!now.ground.isTown(place)) {
            return KIND;
        }
        if (now.walkers[walker].hasEnded()) {
            return NO;
        }
        if (now.post.size >= Post.MOST_BOXES) {
            return FULL;
        }
        return now.post.addBox(walker, place, food, now.day + n);
    }

    public int send(int box, int place, int n) {
        if (!now.post.hasBox(box) || !now.ground.hasPlace(place) || !within(n, 0, 99)) {
            return BAD;
        }
        if (!now.ground.isTown(place)) {
            return KIND;
        }
        if (now.post.states[box] != Post.OPEN) {
            return NO;
        }
        now.post.towns[box] = place;
        now.post.days[box] = now.day + n;
        return 1;
    }

    public int boxTold(int box, int what) {
        Post post = now.post;
        if (!post.hasBox(box)) {
            return BAD;
        }
        switch (what) {
            case 0:
                return post.owners[box];
            case 1:
                return post.towns[box];
            case 2:
                return post.foods[box];
            case 3:
                return post.days[box];
            case 4:
                return post.states[box];
            default:
                return BAD;
        }
    }

    public int run(int n) {
        int refusal = refusalOfDays(n);
        if (refusal != 0) {
            return refusal;
        }
        for (int i = 0; i < n; i++) {
            now.passDay();
        }
        return now.day;
    }

    public int crowd(int n) {
        int refusal = refusalOfDays(n);
        if (refusal != 0) {
            return refusal;
        }
        trial.become(now);
        int most = 0;
        for (int i = 0; i < n; i++) {
            most = Math.max(most, trial.passDay());
        }
        return most;
    }

    // ---- permits, plans

    public int quota(int weekday, int v) {
        if (!within(weekday, 0, 6) || !within(v, 0, 9)) {
            return BAD;
        }
        int before = now.permits.quotas[weekday];
        now.permits.quotas[weekday] = v;
        return before;
    }

    public int wish(int day, int later) {
        if (!within(day, 0, LAST_DAY) || !within(later, 0, 9)) {
            return BAD;
        }
        if (now.permits.size >= Permits.MOST_WISHES) {
            return FULL;
        }
        return now.permits.addWish(day, later);
    }

    public int granted(int wish) {
        Permits permits = now.permits;
        if (!permits.hasWish(wish)) {
            return BAD;
        }
        permits.drawUp(now.laws, now.day);
        permits.grantAll(NONE);
        return permits.grants[wish];
    }

    public int would(int q) {
        if (!within(q, 0, 9)) {
            return BAD;
        }
        now.permits.drawUp(now.laws, now.day);
        return now.permits.grantAll(q);
    }

    public int cost(int v) {
        if (!within(v, 0, 99)) {
            return BAD;
        }
        int before = now.supply.cost;
        now.supply.cost = v;
        return before;
    }

    public int plan(int pace, int carry, int what) {
        if (!within(pace, 1, Walker.MOST_PACE) || !within(carry, 1, 20) || !within(what, 0, 2)) {
            return BAD;
        }
        long best = now.supply.leastPlan(now.ground, pace, carry);
        if (best < 0) {
            return NONE;
        }
        switch (what) {
            case 0:
                return Supply.weightOf(best);
            case 1:
                return Supply.boxesOf(best);
            default:
                return Supply.townsOf(best);
        }
    }

    public int ride(int place, int other, int minutes) {
        Ground ground = now.ground;
        if (!ground.hasPlace(place) || !ground.hasPlace(other) || place == other || !within(minutes, 1, 999)) {
            return BAD;
        }
        if (!ground.isTown(place) || !ground.isTown(other)) {
            return KIND;
        }
        if (now.supply.rides >= Supply.MOST_RIDES) {
            return FULL;
        }
        return now.supply.addRide(place, other, minutes);
    }

    public int minutes(int place, int other) {
        Ground ground = now.ground;
        if (!ground.hasPlace(place) || !ground.hasPlace(other)) {
            return BAD;
        }
        if (!ground.isTown(place) || !ground.isTown(other)) {
            return KIND;
        }
        return now.supply.leastMinutes(place, other);
    }

    public int round(int fire) {
        Ground ground = now.ground;
        if (!ground.hasFire(fire)) {
            return BAD;
        }
        int before = ground.lastTownUpTo(ground.fireFroms[fire]);
        int behind = ground.firstTownFrom(ground.fireTos[fire]);
        return before < 0 || behind < 0 ? NONE : now.supply.leastMinutes(before, behind);
    }

    public int picture(int day, int mile) {
        if (!within(day, 0, LAST_DAY) || !now.ground.hasMile(mile)) {
            return BAD;
        }
        if (now.album.size >= Album.MOST_PICTURES) {
            return FULL;
        }
        return now.album.addPicture(day, mile);
    }

    public int proved(int v, int what) {
        if (!within(v, 1, 99) || what < 0) {
            return BAD;
        }
        int first = now.album.firstOfBestRow(v);
        switch (what) {
            case 0:
                return first < 0 ? 0 : now.album.rowSizes[first];
            case 1:
                return first < 0 ? 0 : now.album.rowMiles(first);
            default:
                return now.album.pictureOfRow(first, what - 2);
        }
    }

    // ---- sheets

    public int sheet(int sheet, int sort, int n) {
        if (!hasSheet(sheet) || !within(sort, Sheet.MISSING, Sheet.LONGS)) {
            return BAD;
        }
        if (sort == Sheet.MISSING) {
            sheets[sheet].clearAs(Sheet.MISSING, 0);
            return 0;
        }
        if (n > Sheet.MOST_PLACES) {
            return BAD;
        }
        if (n < 0) {
            return SIZE;
        }
        sheets[sheet].clearAs(sort, n);
        return n;
    }

    public int mark(int sheet, int place, int v) {
        if (!hasSheet(sheet)) {
            return BAD;
        }
        Sheet of = sheets[sheet];
        if (of.sort == Sheet.MISSING) {
            return NOTHING;
        }
        if (!within(place, 0, of.size - 1)) {
            return INDEX;
        }
        long before = of.places[place];
        of.places[place] = of.sort == Sheet.BYTES ? (byte) v : v;
        return (int) before;
    }

    public int sum(int sheet, int v) {
        if (!hasSheet(sheet)) {
            return BAD;
        }
        if (sheets[sheet].sort == Sheet.MISSING) {
            return NOTHING;
        }
        return (int) (sheets[sheet].total() * v);
    }

    public int copy(int from, int place, int to, int at, int many) {
        if (!hasSheet(from) || !hasSheet(to)) {
            return BAD;
        }
        Sheet source = sheets[from];
        Sheet target = sheets[to];
        if (source.sort == Sheet.MISSING || target.sort == Sheet.MISSING) {
            return NOTHING;
        }
        if (source.sort != target.sort) {
            return KIND;
        }
        if (!source.hasStretch(place, many) || !target.hasStretch(at, many)) {
            return INDEX;
        }
        System.arraycopy(source.places, place, target.places, at, many);
        return many;
    }

    // ---- rows, images

    public int tell(int v) {
        if (waits >= MOST_WAITING) {
            return FULL;
        }
        waiting[waits] = v;
        waits++;
        return waits;
    }

    public int check(int n) {
        int told = waits;
        waits = 0;
        if (!within(n, 1, 30)) {
            return BAD;
        }
        if (!kept) {
            return NO;
        }
        trial.become(image);
        for (int i = 0; i < 2 * n; i++) {
            if (i % 2 == 0) {
                trial.passDay();
            }
            int due = i % 2 == 0 ? trial.milesTogether() : trial.foodTogether();
            if (i >= told || waiting[i] != due) {
                return 1 + i;
            }
        }
        return told > 2 * n ? 1 + 2 * n : 0;
    }

    public int keep() {
        image.become(now);
        kept = true;
        return now.day;
    }

    public int back() {
        if (!kept) {
            return NO;
        }
        now.become(image);
        return now.day;
    }

    public int count(int what) {
        if (within(what, 4, 7)) {
            return now.walkersThatAre(what - 4);
        }
        switch (what) {
            case 0:
                return now.ground.places;
            case 1:
                return now.ground.fires;
            case 2:
                return now.ground.firesOn(now.day);
            case 3:
                return now.walkerCount;
            case 8:
                return now.post.size;
            case 9:
                return now.post.openInAll();
            case 10:
                return now.laws.size;
            case 11:
                return now.permits.size;
            case 12:
                return now.supply.rides;
            case 13:
                return now.album.size;
            case 14:
                return waits;
            case 15:
                return tape.size;
            case 16:
                return now.day;
            case 17:
                return now.ground.length;
            default:
                return BAD;
        }
    }

    private boolean hasSheet(int sheet) {
        return within(sheet, 0, sheets.length - 1);
    }

    /** What run and crowd answer to a number of days that can't go by; 0 if they can. */
    private int refusalOfDays(int n) {
        if (!within(n, 1, 60)) {
            return BAD;
        }
        return now.day + n > LAST_DAY ? FULL : 0;
    }

    private static boolean within(int v, int least, int most) {
        return v >= least && v <= most;
    }

    /** All that an image keeps, and how a day goes by in it. */
    private static final class World {
        private static final int MOST_WALKERS = 10;
        private static final int MOST_STAYED = 3;

        private final Ground ground = new Ground();
        private final Laws laws = new Laws();
        private final Post post = new Post();
        private final Permits permits = new Permits();
        private final Supply supply = new Supply();
        private final Album album = new Album();
        private final Walker[] walkers = new Walker[MOST_WALKERS];
        private int walkerCount;
        private int day;

        private World() {
            for (int i = 0; i < MOST_WALKERS; i++) {
                walkers[i] = new Walker();
            }
        }

        private void become(World other) {
            ground.become(other.ground);
            laws.become(other.laws);
            post.become(other.post);
            permits.become(other.permits);
            supply.become(other.supply);
            album.become(other.album);
            walkerCount = other.walkerCount;
            for (int i = 0; i < walkerCount; i++) {
                walkers[i].become(other.walkers[i]);
            }
            day = other.day;
        }

        private boolean hasWalker(int walker) {
            return within(walker, 0, walkerCount - 1);
        }

        private int walkersThatAre(int state) {
            int many = 0;
            for (int i = 0; i < walkerCount; i++) {
                if (walkers[i].state == state) {
                    many++;
                }
            }
            return many;
        }

        private int walkingAt(int mile) {
            return walkingAtBelow(mile, walkerCount);
        }

        /** How many walkers with numbers below one walk and are at a mile. */
        private int walkingAtBelow(int mile, int below) {
            int many = 0;
            for (int i = 0; i < below; i++) {
                if (walkers[i].state == Walker.WALKS && walkers[i].mile == mile) {
                    many++;
                }
            }
            return many;
        }

        private int milesTogether() {
            int all = 0;
            for (int i = 0; i < walkerCount; i++) {
                all += walkers[i].mile;
            }
            return all;
        }

        private int foodTogether() {
            int all = 0;
            for (int i = 0; i < walkerCount; i++) {
                all += walkers[i].food;
            }
            return all;
        }

        /** Lets the open day go by; answers the most that slept at one mile. */
        private int passDay() {
            for (int i = 0; i < walkerCount; i++) {
                walkers[i].setOutOn(day);
            }
            for (int i = 0; i < walkerCount; i++) {
                if (walkers[i].state == Walker.WALKS) {
                    spendDay(i);
                }
            }
            int most = sleepAll();
            day++;
            return most;
        }

        private void spendDay(int number) {
            Walker walker = walkers[number];
            if (walker.zero > 0) {
                walker.zero--;
                return;
            }
            if (staysForBoxes(number)) {
                return;
            }
            walker.stayed = 0;
            if (!skipsFire(walker)) {
                walkOn(number);
            }
            walker.endWalk();
            endIfDue(number);
        }

        /** Takes the boxes that are there; answers whether the walker stays to wait for others. */
        private boolean staysForBoxes(int number) {
            Walker walker = walkers[number];
            int town = ground.placeAt(walker.mile);
            if (town < 0 || post.openAt(number, town) == 0) {
                return false;
            }
            int food = ground.isShutOn(town, day) ? 0 : post.takeBoxes(number, town, day);
            if (food > 0) {
                walker.packFood(food);
                return false;
            }
            walker.stayed++;
            if (walker.stayed <= MOST_STAYED) {
                return true;
            }
            post.giveOnAt(number, town);
            return false;
        }

        private boolean skipsFire(Walker walker) {
            int end = ground.farEndOfFire(walker.mile, day);
            if (end < 0) {
                return false;
            }
            int miles = end - walker.mile;
            laws.nameTwo(miles, walker.food);
            if (laws.answerOf(ground.landOf(walker.mile), Laws.SKIP, day, 0) == 0) {
                return false;
            }
            walker.skipped += miles;
            walker.mile = end;
            return true;
        }

        private void walkOn(int number) {
            Walker walker = walkers[number];
            int begin = walker.mile;
            int end = begin + (walker.food > 0 ? walker.pace : walker.pace / 2);
            end = Math.min(end, ground.length);
            end = Math.min(end, ground.firstSnowFrom(begin, day));
            end = Math.min(end, ground.firstFireFrom(begin, day));
            end = Math.min(end, post.firstTownBeyond(number, begin, ground));
            walker.walkTo(end, ground.lastWater(begin, end));
        }

        private void endIfDue(int number) {
            Walker walker = walkers[number];
            laws.nameFour(walker.hungry, walker.thirsty, walker.shoes, walker.walked);
            int otherwise = walker.hungry > 2 ? 1 : 0;
            if (laws.answerOf(ground.landOf(walker.mile), Laws.QUIT, day, otherwise) != 0) {
                walker.state = Walker.QUIT;
            } else if (walker.mile >= ground.length) {
                walker.state = Walker.DONE;
            }
            if (walker.hasEnded()) {
                post.giveOnAll(number);
            }
        }

        /** The night; answers the most that sleep at one mile. */
        private int sleepAll() {
            int most = 0;
            for (int i = 0; i < walkerCount; i++) {
                Walker walker = walkers[i];
                if (walker.state != Walker.WALKS) {
                    continue;
                }
                int all = walkingAt(walker.mile);
                most = Math.max(most, all);
                if (walkingAtBelow(walker.mile, i) >= ground.bedsAt(walker.mile)) {
                    sleepOut(walker, all);
                }
            }
            return most;
        }

        private void sleepOut(Walker walker, int all) {
            walker.out++;
            laws.nameTwo(walker.mile, all);
            if (laws.answerOf(ground.landOf(walker.mile), Laws.CAMP, day, 1) == 0) {
                walker.fined++;
            }
        }
    }

    /** What lies along the trail: its length, places, lands and fires. */
    private static final class Ground {
        private static final int MOST_PLACES = 16;
        private static final int MOST_FIRES = 6;
        private static final int LAST_LAND = 3;
        private static final int PLACE = 0, WATER = 1, TOWN = 3, PASS = 4, LAST_KIND = 5;
        // PLACE has none above it; WATER, HUT, TOWN, PASS, CAMP stand under PLACE, WATER, HUT, PLACE, WATER.
        private static final int[] KIND_ABOVE = {-1, 0, 1, 2, 0, 1};

        private final int[] kinds = new int[MOST_PLACES];
        private final int[] miles = new int[MOST_PLACES];
        private final int[] numbers = new int[MOST_PLACES];
        private final int[] shuts = new int[MOST_PLACES];
        private final int[] begins = {0, NONE, NONE, NONE};
        private final int[] fireFroms = new int[MOST_FIRES];
        private final int[] fireTos = new int[MOST_FIRES];
        private final int[] fireFirstDays = new int[MOST_FIRES];
        private final int[] fireLastDays = new int[MOST_FIRES];
        private int length = 400;
        private int places;
        private int fires;

        private void become(Ground other) {
            System.arraycopy(other.kinds, 0, kinds, 0, MOST_PLACES);
            System.arraycopy(other.miles, 0, miles, 0, MOST_PLACES);
            System.arraycopy(other.numbers, 0, numbers, 0, MOST_PLACES);
            System.arraycopy(other.shuts, 0, shuts, 0, MOST_PLACES);
            System.arraycopy(other.begins, 0, begins, 0, begins.length);
            System.arraycopy(other.fireFroms, 0, fireFroms, 0, MOST_FIRES);
            System.arraycopy(other.fireTos, 0, fireTos, 0, MOST_FIRES);
            System.arraycopy(other.fireFirstDays, 0, fireFirstDays, 0, MOST_FIRES);
            System.arraycopy(other.fireLastDays, 0, fireLastDays, 0, MOST_FIRES);
            length = other.length;
            places = other.places;
            fires = other.fires;
        }

        private boolean hasMile(int mile) {
            return within(mile, 0, length);
        }

        private boolean hasPlace(int place) {
            return within(place, 0, places - 1);
        }

        private boolean hasFire(int fire) {
            return within(fire, 0, fires - 1);
        }

        /** Whether a place of a kind can have the number a. */
        private static boolean suits(int kind, int a) {
            if (kind == PLACE || kind == WATER) {
                return a == 0;
            }
            return kind == PASS ? within(a, 0, 142) : within(a, 1, 9);
        }

        private int addPlace(int kind, int mile, int a) {
            kinds[places] = kind;
            miles[places] = mile;
            numbers[places] = a;
            shuts[places] = 0;
            places++;
            return places - 1;
        }

        private int addFire(int from, int to, int firstDay, int lastDay) {
            fireFroms[fires] = from;
            fireTos[fires] = to;
            fireFirstDays[fires] = firstDay;
            fireLastDays[fires] = lastDay;
            fires++;
            return fires - 1;
        }

        private boolean reachesBeyond(int mile) {
            for (int i = 0; i < places; i++) {
                if (miles[i] > mile) {
                    return true;
                }
            }
            for (int i = 0; i < fires; i++) {
                if (fireTos[i] > mile) {
                    return true;
                }
            }
            return false;
        }

        private int placeAt(int mile) {
            for (int i = 0; i < places; i++) {
                if (miles[i] == mile) {
                    return i;
                }
            }
            return -1;
        }

        private boolean isOf(int place, int kind) {
            int above = kinds[place];
            for (int step = 0; step < KIND_ABOVE.length && above >= 0; step++) {
                if (above == kind) {
                    return true;
                }
                above = KIND_ABOVE[above];
            }
            return false;
        }

        private boolean isTown(int place) {
            return isOf(place, TOWN);
        }

        private boolean isShutOn(int town, int day) {
            return (shuts[town] >> day % 7 & 1) == 1;
        }

        private int bedsAt(int mile) {
            int place = placeAt(mile);
            // Of the kinds under WATER only WATER itself has no beds, and its number is 0.
            return place >= 0 && isOf(place, WATER) ? numbers[place] : 0;
        }

        private int landOf(int mile) {
            for (int land = LAST_LAND; land > 0; land--) {
                if (begins[land] != NONE && begins[land] <= mile) {
                    return land;
                }
            }
            return 0;
        }

        /** The mile of the first water beyond a mile; -1 without one. */
        private int nextWater(int mile) {
            int next = -1;
            for (int i = 0; i < places; i++) {
                if (miles[i] > mile && isOf(i, WATER) && (next < 0 || miles[i] < next)) {
                    next = miles[i];
                }
            }
            return next;
        }

        /** The mile of the last water behind begin up to end; -1 without one. */
        private int lastWater(int begin, int end) {
            int last = -1;
            for (int i = 0; i < places; i++) {
                if (miles[i] > begin && miles[i] <= end && isOf(i, WATER)) {
                    last = Math.max(last, miles[i]);
                }
            }
            return last;
        }

        /** The first mile from one on that is a pass with snow; the length without one. */
        private int firstSnowFrom(int mile, int day) {
            int first = length;
            for (int i = 0; i < places; i++) {
                if (miles[i] >= mile && isOf(i, PASS) && day / 7 <= numbers[i]) {
                    first = Math.min(first, miles[i]);
                }
            }
            return first;
        }

        private boolean isOn(int fire, int day) {
            return within(day, fireFirstDays[fire], fireLastDays[fire]);
        }

        private int firesOn(int day) {
            int many = 0;
            for (int i = 0; i < fires; i++) {
                if (isOn(i, day)) {
                    many++;
                }
            }
            return many;
        }

        private boolean isShutAt(int mile, int day) {
            for (int i = 0; i < fires; i++) {
                if (isOn(i, day) && mile >= fireFroms[i] && mile < fireTos[i]) {
                    return true;
                }
            }
            return false;
        }

        /** The first mile from one on at which a fire that is on begins; the length without one. */
        private int firstFireFrom(int mile, int day) {
            int first = length;
            for (int i = 0; i < fires; i++) {
                if (isOn(i, day) && fireFroms[i] >= mile) {
                    first = Math.min(first, fireFroms[i]);
                }
            }
            return first;
        }

        /** The other end of the longest fire that is on and begins at a mile; -1 without one. */
        private int farEndOfFire(int mile, int day) {
            int end = -1;
            for (int i = 0; i < fires; i++) {
                if (isOn(i, day) && fireFroms[i] == mile) {
                    end = Math.max(end, fireTos[i]);
                }
            }
            return end;
        }

        private int lastTownUpTo(int mile) {
            int last = -1;
            for (int i = 0; i < places; i++) {
                if (isTown(i) && miles[i] <= mile && (last < 0 || miles[i] > miles[last])) {
                    last = i;
                }
            }
            return last;
        }

        private int firstTownFrom(int mile) {
            int first = -1;
            for (int i = 0; i < places; i++) {
                if (isTown(i) && miles[i] >= mile && (first < 0 || miles[i] < miles[first])) {
                    first = i;
                }
            }
            return first;
        }
    }

    /** One who walks, and the numbers that are told of it. */
    private static final class Walker {
        private static final int WAITS = 0, WALKS = 1, QUIT = 2, DONE = 3;
        private static final int MOST_PACE = 40;
        private static final int LAST_TOLD = 13;

        private int start;
        private int pace;
        private int gain;
        private int carry;
        private int skin;
        private int state;
        private int mile;
        private int food;
        private int hungry;
        private int thirsty;
        private int dry;
        private int walked;
        private int shoes;
        private int zero;
        private int stayed;
        private int out;
        private int fined;
        private int skipped;

        /** A slot may have been used ahead of an image that came back, so all is set anew. */
        private void comeNew(int startDay, int firstPace, int paceGain, int mostFood, int mostDry) {
            start = startDay;
            pace = firstPace;
            gain = paceGain;
            carry = mostFood;
            skin = mostDry;
            state = WAITS;
            mile = 0;
            food = 0;
            hungry = 0;
            thirsty = 0;
            dry = 0;
            walked = 0;
            shoes = 0;
            zero = 0;
            stayed = 0;
            out = 0;
            fined = 0;
            skipped = 0;
        }

        private void become(Walker other) {
            start = other.start;
            pace = other.pace;
            gain = other.gain;
            carry = other.carry;
            skin = other.skin;
            state = other.state;
            mile = other.mile;
            food = other.food;
            hungry = other.hungry;
            thirsty = other.thirsty;
            dry = other.dry;
            walked = other.walked;
            shoes = other.shoes;
            zero = other.zero;
            stayed = other.stayed;
            out = other.out;
            fined = other.fined;
            skipped = other.skipped;
        }

        private int toldOf(int what) {
            switch (what) {
                case 0:
                    return state;
                case 1:
                    return mile;
                case 2:
                    return pace;
                case 3:
                    return food;
                case 4:
                    return hungry;
                case 5:
                    return thirsty;
                case 6:
                    return dry;
                case 7:
                    return walked;
                case 8:
                    return shoes;
                case 9:
                    return zero;
                case 10:
                    return stayed;
                case 11:
                    return out;
                case 12:
                    return fined;
                default:
                    return skipped;
            }
        }

        private boolean hasEnded() {
            return state == QUIT || state == DONE;
        }

        private void setOutOn(int day) {
            if (state == WAITS && start <= day) {
                state = WALKS;
                mile = 0;
                food = carry;
            }
        }

        private void packFood(int more) {
            food = Math.min(carry, food + more);
        }

        /** Walks on to a mile; water is the mile of the last water on the way, below 0 without one. */
        private void walkTo(int end, int water) {
            int miles = end - mile;
            shoes += miles;
            dry = water < 0 ? dry + miles : end - water;
            mile = end;
        }

        /** What a day's walk does to the walker, wherever it led. */
        private void endWalk() {
            hungry = food > 0 ? 0 : hungry + 1;
            food = Math.max(0, food - 1);
            walked++;
            if (walked % 7 == 0) {
                pace = Math.min(MOST_PACE, pace + gain);
            }
            if (dry > skin) {
                thirsty++;
            }
        }
    }

    /** The boxes that are sent to walkers. */
    private static final class Post {
        private static final int MOST_BOXES = 20;
        private static final int OPEN = 0, TAKEN = 1, GIVEN_ON = 2;

        private final int[] owners = new int[MOST_BOXES];
        private final int[] towns = new int[MOST_BOXES];
        private final int[] foods = new int[MOST_BOXES];
        private final int[] days = new int[MOST_BOXES];
        private final int[] states = new int[MOST_BOXES];
        private int size;

        private void become(Post other) {
            System.arraycopy(other.owners, 0, owners, 0, MOST_BOXES);
            System.arraycopy(other.towns, 0, towns, 0, MOST_BOXES);
            System.arraycopy(other.foods, 0, foods, 0, MOST_BOXES);
            System.arraycopy(other.days, 0, days, 0, MOST_BOXES);
            System.arraycopy(other.states, 0, states, 0, MOST_BOXES);
            size = other.size;
        }

        private boolean hasBox(int box) {
            return within(box, 0, size - 1);
        }

        private int addBox(int owner, int town, int food, int day) {
            owners[size] = owner;
            towns[size] = town;
            foods[size] = food;
            days[size] = day;
            states[size] = OPEN;
            size++;
            return size - 1;
        }

        private boolean isOpenFor(int box, int owner) {
            return states[box] == OPEN && owners[box] == owner;
        }

        private int openInAll() {
            int many = 0;
            for (int i = 0; i < size; i++) {
                many += states[i] == OPEN ? 1 : 0;
            }
            return many;
        }

        private int openIn(int town) {
            int many = 0;
            for (int i = 0; i < size; i++) {
                many += states[i] == OPEN && towns[i] == town ? 1 : 0;
            }
            return many;
        }

        private int openOf(int owner) {
            int many = 0;
            for (int i = 0; i < size; i++) {
                many += isOpenFor(i, owner) ? 1 : 0;
            }
            return many;
        }

        private int openAt(int owner, int town) {
            int many = 0;
            for (int i = 0; i < size; i++) {
                many += isOpenFor(i, owner) && towns[i] == town ? 1 : 0;
            }
            return many;
        }

        /** The first mile beyond one of a town with open boxes of an owner; the length without one. */
        private int firstTownBeyond(int owner, int mile, Ground ground) {
            int first = ground.length;
            for (int i = 0; i < size; i++) {
                int at = ground.miles[towns[i]];
                if (isOpenFor(i, owner) && at > mile) {
                    first = Math.min(first, at);
                }
            }
            return first;
        }

        /** Takes all boxes of an owner that are in a town by a day: the food in them. */
        private int takeBoxes(int owner, int town, int day) {
            int food = 0;
            for (int i = 0; i < size; i++) {
                if (isOpenFor(i, owner) && towns[i] == town && days[i] <= day) {
                    states[i] = TAKEN;
                    food += foods[i];
                }
            }
            return food;
        }

        private void giveOnAt(int owner, int town) {
            for (int i = 0; i < size; i++) {
                if (isOpenFor(i, owner) && towns[i] == town) {
                    states[i] = GIVEN_ON;
                }
            }
        }

        private void giveOnAll(int owner) {
            for (int i = 0; i < size; i++) {
                if (isOpenFor(i, owner)) {
                    states[i] = GIVEN_ON;
                }
            }
        }
    }

    /** One text of a land, which never changes once it is read: images share it. */
    private static final class Text {
        private final int key;
        private final int land;
        private final int day;
        private final int operands;
        private final int[] steps;

        private Text(int key, int land, int day, int operands, int[] steps) {
            this.key = key;
            this.land = land;
            this.day = day;
            this.operands = operands;
            this.steps = steps;
        }
    }

    /** The texts of the lands, and how they are asked. */
    private static final class Laws {
        private static final int MOST_TEXTS = 12;
        private static final int CAMP = 0, SKIP = 1, QUIT = 2, DRAW = 3, LAST_KEY = 3;
        private static final int NAMES = 4;

        private final Text[] texts = new Text[MOST_TEXTS];
        private int size;
        private final int[] names = new int[NAMES];
        private final int[] stack = new int[Tape.MOST_BYTES];
        private int top;

        private void become(Laws other) {
            for (int i = 0; i < MOST_TEXTS; i++) {
                texts[i] = other.texts[i];
            }
            size = other.size;
        }

        private int add(Text text) {
            texts[size] = text;
            size++;
            return size - 1;
        }

        private Text textOf(int text) {
            return within(text, 0, size - 1) ? texts[text] : null;
        }

        /** The text that counts for a land and a key on a day; -1 without one. */
        private int countingText(int land, int key, int day) {
            int best = -1;
            int bestDay = -1;
            for (int i = 0; i < size; i++) {
                Text text = texts[i];
                if (text != null && text.land == land && text.key == key && within(text.day, bestDay, day)) {
                    best = i;
                    bestDay = text.day;
                }
            }
            return best;
        }

        private void nameTwo(int first, int second) {
            names[0] = first;
            names[1] = second;
        }

        private void nameFour(int first, int second, int third, int fourth) {
            nameTwo(first, second);
            names[2] = third;
            names[3] = fourth;
        }

        /** What the counting text says of the names as they are now; otherwise, if there is none. */
        private int answerOf(int land, int key, int day, int otherwise) {
            Text text = textOf(countingText(land, key, day));
            return text == null ? otherwise : worthOf(text.steps);
        }

        private int worthOf(int[] steps) {
            top = 0;
            for (int i = 0; i < steps.length; i++) {
                int step = steps[i];
                if (step >= 0) {
                    push(step);
                } else if (step >= -NAMES) {
                    push(names[-1 - step]);
                } else if (step == -'!') {
                    push(pop() == 0 ? 1 : 0);
                } else {
                    int right = pop();
                    push(joined(-step, pop(), right));
                }
            }
            return pop();
        }

        private void push(int v) {
            if (top < stack.length) {
                stack[top] = v;
                top++;
            }
        }

        private int pop() {
            if (top <= 0) {
                return 0;
            }
            top--;
            return stack[top];
        }

        private static int joined(int sign, int left, int right) {
            switch (sign) {
                case '|':
                    return left != 0 || right != 0 ? 1 : 0;
                case '&':
                    return left != 0 && right != 0 ? 1 : 0;
                case '<':
                    return left < right ? 1 : 0;
                case '=':
                    return left == right ? 1 : 0;
                case '>':
                    return left > right ? 1 : 0;
                case '+':
                    return left + right;
                case '-':
                    return left - right;
                case '*':
                    return left * right;
                default:
                    return right == 0 ? 0 : left / right;
            }
        }
    }

    /**
     * The tape, and how it is read: a text becomes steps for a stack. A step of 0 or more is a number,
     * one from -1 to -4 a name by its place among those of the key, any other a sign less than 0.
     */
    private static final class Tape {
        private static final int MOST_BYTES = 96;
        private static final int MOST_OPEN = 8;
        private static final int MOST_DIGITS = 4;
        private static final int KEY_SIZE = 4;
        private static final String KEYS = "campskipquitdraw";
        private static final String CAMP_NAMES = "mn", SKIP_NAMES = "lf", QUIT_NAMES = "htsw", DRAW_NAMES = "dp";
        private static final int TEST_LEVEL = 2, LAST_LEVEL = 4;
        private static final int START = 0, LETTERS = 1, NUMBER = 2, SIGN = 3, WRONG = 4, END = 5;

        private final byte[] bytes = new byte[MOST_BYTES];
        private int size;
        // The word or sign that is being looked at.
        private int from;
        private int end;
        private int sort;
        private int sign;
        private int number;
        // What has been read of the text.
        private int key;
        private final int[] steps = new int[MOST_BYTES];
        private int stepCount;
        private int operands;
        private int fault;

        private void append(int four) {
            for (int shift = 24; shift >= 0 && size < MOST_BYTES; shift -= 8) {
                bytes[size] = (byte) (four >> shift);
                size++;
            }
        }

        /** Reads all bytes as one text: the place of the fault, or -1. */
        private int readText() {
            fault = -1;
            stepCount = 0;
            operands = 0;
            end = 0;
            sort = START;
            nextWord();
            readKey();
            readLevel(0, 0, 0);
            if (sort != END) {
                noteFault();
            }
            return fault;
        }

        /** The text that was read last. */
        private Text textFor(int land, int day) {
            return new Text(key, land, day, operands, Arrays.copyOf(steps, stepCount));
        }

        private void noteFault() {
            if (fault < 0) {
                fault = from;
            }
        }

        private void addStep(int step) {
            if (stepCount < steps.length) {
                steps[stepCount] = step;
                stepCount++;
            }
        }

        private void addOperand(int step) {
            addStep(step);
            operands++;
            nextWord();
        }

        private void nextWord() {
            boolean behindWord = sort == LETTERS || sort == NUMBER;
            int before = end;
            from = end;
            while (from < size && bytes[from] == ' ') {
                from++;
            }
            end = from;
            sign = 0;
            if (from >= size) {
                sort = END;
            } else if (isLetter(bytes[from])) {
                takeLetters();
            } else if (isDigit(bytes[from])) {
                takeDigits();
            } else {
                sort = SIGN;
                sign = bytes[from];
                end = from + 1;
            }
            if (behindWord && from == before && (sort == LETTERS || sort == NUMBER)) {
                sort = WRONG;
            }
        }

        private void takeLetters() {
            sort = LETTERS;
            while (end < size && isLetter(bytes[end])) {
                end++;
            }
        }

        private void takeDigits() {
            number = 0;
            while (end < size && isDigit(bytes[end])) {
                number = 10 * number + bytes[end] - '0';
                end++;
            }
            sort = end - from > MOST_DIGITS ? WRONG : NUMBER;
        }

        private static boolean isLetter(byte b) {
            return b >= 'a' && b <= 'z';
        }

        private static boolean isDigit(byte b) {
            return b >= '0' && b <= '9';
        }

        private void readKey() {
            for (int i = 0; i <= Laws.LAST_KEY; i++) {
                if (sort == LETTERS && end - from == KEY_SIZE && standsAt(i * KEY_SIZE)) {
                    key = i;
                    nextWord();
                    return;
                }
            }
            noteFault();
        }

        /** Whether the word is the key that begins at a place of KEYS. */
        private boolean standsAt(int place) {
            for (int i = 0; i < KEY_SIZE; i++) {
                if (bytes[from + i] != KEYS.charAt(place + i)) {
                    return false;
                }
            }
            return true;
        }

        /** Reads what the signs of a level join: 0 OR, 1 AND, 2 TEST, 3 SUM, 4 TERM, and then PARTS. */
        private void readLevel(int level, int open, int nots) {
            if (fault >= 0) {
                return;
            }
            if (level > LAST_LEVEL) {
                readPart(open, nots);
                return;
            }
            readLevel(level + 1, open, nots);
            for (int i = 0; i < MOST_BYTES && fault < 0 && levelOf(sign) == level; i++) {
                int joining = sign;
                nextWord();
                readLevel(level + 1, open, nots);
                addStep(-joining);
                if (level == TEST_LEVEL) {
                    return;
                }
            }
        }

        private static int levelOf(int sign) {
            switch (sign) {
                case '|':
                    return 0;
                case '&':
                    return 1;
                case '<':
                case '=':
                case '>':
                    return TEST_LEVEL;
                case '+':
                case '-':
                    return 3;
                case '*':
                case '/':
                    return LAST_LEVEL;
                default:
                    return -1;
            }
        }

        private void readPart(int open, int nots) {
            int name = nameHere();
            if (sort == NUMBER) {
                addOperand(number);
            } else if (name >= 0) {
                addOperand(-1 - name);
            } else if (sign == '!' && nots < MOST_OPEN) {
                nextWord();
                readPart(open, nots + 1);
                addStep(-'!');
            } else if (sign == '(' && open < MOST_OPEN) {
                nextWord();
                readLevel(0, open + 1, nots);
                readClosing();
            } else {
                noteFault();
            }
        }

        private void readClosing() {
            if (sign == ')' && fault < 0) {
                nextWord();
            } else {
                noteFault();
            }
        }

        /** The place of the word that is looked at among the names of the key; -1 if it is none of them. */
        private int nameHere() {
            return sort == LETTERS && end - from == 1 ? namesOf(key).indexOf((char) bytes[from]) : -1;
        }

        private static String namesOf(int key) {
            switch (key) {
                case Laws.CAMP:
                    return CAMP_NAMES;
                case Laws.SKIP:
                    return SKIP_NAMES;
                case Laws.QUIT:
                    return QUIT_NAMES;
                default:
                    return DRAW_NAMES;
            }
        }
    }

    /** Wishes for days, quotas, and who gets what. */
    private static final class Permits {
        private static final int MOST_WISHES = 16;

        private final int[] quotas = {1, 1, 1, 1, 1, 1, 1};
        private final int[] days = new int[MOST_WISHES];
        private final int[] laters = new int[MOST_WISHES];
        private int size;
        // Filled anew by each grant; no image needs them.
        private final int[] worths = new int[MOST_WISHES];
        private final int[] turns = new int[MOST_WISHES];
        private final int[] grants = new int[MOST_WISHES];

        private void become(Permits other) {
            System.arraycopy(other.quotas, 0, quotas, 0, quotas.length);
            System.arraycopy(other.days, 0, days, 0, MOST_WISHES);
            System.arraycopy(other.laters, 0, laters, 0, MOST_WISHES);
            size = other.size;
        }

        private boolean hasWish(int wish) {
            return within(wish, 0, size - 1);
        }

        private int addWish(int day, int later) {
            days[size] = day;
            laters[size] = later;
            size++;
            return size - 1;
        }

        private int wishesFor(int day) {
            int many = 0;
            for (int i = 0; i < size; i++) {
                many += days[i] == day ? 1 : 0;
            }
            return many;
        }

        /** Puts the wishes into the order in which they are granted. */
        private void drawUp(Laws laws, int today) {
            for (int i = 0; i < size; i++) {
                laws.nameTwo(days[i], wishesFor(days[i]));
                worths[i] = laws.answerOf(0, Laws.DRAW, today, 0);
                int turn = i;
                while (turn > 0 && worths[turns[turn - 1]] < worths[i]) {
                    turns[turn] = turns[turn - 1];
                    turn--;
                }
                turns[turn] = i;
            }
        }

        /** Grants by the order drawn up: how many get a day. A quota of NONE: each weekday's own. */
        private int grantAll(int quota) {
            Arrays.fill(grants, NONE);
            int many = 0;
            for (int turn = 0; turn < size; turn++) {
                int wish = turns[turn];
                grants[wish] = firstFreeDay(wish, quota);
                many += grants[wish] == NONE ? 0 : 1;
            }
            return many;
        }

        private int firstFreeDay(int wish, int quota) {
            for (int day = days[wish]; day <= days[wish] + laters[wish]; day++) {
                int most = quota == NONE ? quotas[day % 7] : quota;
                if (grantsOn(day) < most) {
                    return day;
                }
            }
            return NONE;
        }

        private int grantsOn(int day) {
            int many = 0;
            for (int i = 0; i < size; i++) {
                many += grants[i] == day ? 1 : 0;
            }
            return many;
        }
    }

    /** What serves walkers from towns: plans for boxes, and rides. */
    private static final class Supply {
        private static final int MOST_RIDES = 12;
        private static final int FAR = 1000000;
        // A plan is one number, so that the least number is the plan that is due: from the highest bits
        // on WEIGHT, how many BOXES (5 bits), the TOWNS (16 bits).
        private static final int WEIGHT_SHIFT = 21, BOXES_SHIFT = 16;

        private int cost = 10;
        private final int[] rideFroms = new int[MOST_RIDES];
        private final int[] rideTos = new int[MOST_RIDES];
        private final int[] rideMinutes = new int[MOST_RIDES];
        private int rides;
        // Filled anew by each call; no image needs them.
        private final int[] leasts = new int[Ground.MOST_PLACES];
        private final int[] stops = new int[Ground.MOST_PLACES + 1];
        private final long[] plans = new long[Ground.MOST_PLACES + 1];

        private void become(Supply other) {
            cost = other.cost;
            System.arraycopy(other.rideFroms, 0, rideFroms, 0, MOST_RIDES);
            System.arraycopy(other.rideTos, 0, rideTos, 0, MOST_RIDES);
            System.arraycopy(other.rideMinutes, 0, rideMinutes, 0, MOST_RIDES);
            rides = other.rides;
        }

        private int addRide(int place, int other, int minutes) {
            rideFroms[rides] = place;
            rideTos[rides] = other;
            rideMinutes[rides] = minutes;
            rides++;
            return rides - 1;
        }

        /** The least minutes together from a place to another one; NONE if no rides lead there. */
        private int leastMinutes(int place, int other) {
            Arrays.fill(leasts, FAR);
            leasts[place] = 0;
            // No least way takes a ride twice, so as many rounds as there are rides are enough.
            for (int turn = 0; turn < rides; turn++) {
                for (int i = 0; i < rides; i++) {
                    int a = rideFroms[i];
                    int b = rideTos[i];
                    leasts[a] = Math.min(leasts[a], leasts[b] + rideMinutes[i]);
                    leasts[b] = Math.min(leasts[b], leasts[a] + rideMinutes[i]);
                }
            }
            return leasts[other] >= FAR ? NONE : leasts[other];
        }

        private static int weightOf(long plan) {
            return (int) (plan >> WEIGHT_SHIFT);
        }

        private static int boxesOf(long plan) {
            return (int) (plan >> BOXES_SHIFT) & 31;
        }

        private static int townsOf(long plan) {
            return (int) plan & 65535;
        }

        /** The least plan; -1 if there is none. */
        private long leastPlan(Ground ground, int pace, int carry) {
            int towns = lineUpTowns(ground);
            stops[towns] = ground.length;
            for (int stop = 0; stop < towns; stop++) {
                long box = ((long) cost << WEIGHT_SHIFT) + (1L << BOXES_SHIFT) + (1L << stop);
                long way = leastWayTo(stop, pace, carry);
                plans[stop] = way < 0 ? -1 : way + box;
            }
            return leastWayTo(towns, pace, carry);
        }

        /** The least plan of the stops ahead of one with the leg to it, from plans that stand already. */
        private long leastWayTo(int stop, int pace, int carry) {
            long least = -1;
            for (int last = -1; last < stop; last++) {
                long before = last < 0 ? 0 : plans[last];
                int miles = stops[stop] - (last < 0 ? 0 : stops[last]);
                long days = pace <= 0 ? 0 : (miles + pace - 1) / pace;
                long all = before + (days * days << WEIGHT_SHIFT);
                if (before >= 0 && days <= carry && (least < 0 || all < least)) {
                    least = all;
                }
            }
            return least;
        }

        /** Puts the miles of all towns into stops, rising: how many. */
        private int lineUpTowns(Ground ground) {
            int towns = 0;
            for (int i = 0; i < ground.places; i++) {
                if (!ground.isTown(i)) {
                    continue;
                }
                int at = towns;
                while (at > 0 && stops[at - 1] > ground.miles[i]) {
                    stops[at] = stops[at - 1];
                    at--;
                }
                stops[at] = ground.miles[i];
                towns++;
            }
            return towns;
        }
    }

    /** The pictures, and the row of them that proves most. */
    private static final class Album {
        private static final int MOST_PICTURES = 20;

        private final int[] days = new int[MOST_PICTURES];
        private final int[] miles = new int[MOST_PICTURES];
        private int size;
        // The best row that begins with each picture, filled anew by each call; no image needs it.
        private final int[] latestFirst = new int[MOST_PICTURES];
        private final int[] rowSizes = new int[MOST_PICTURES];
        private final int[] rowEnds = new int[MOST_PICTURES];
        private final int[] rowNexts = new int[MOST_PICTURES];

        private void become(Album other) {
            System.arraycopy(other.days, 0, days, 0, MOST_PICTURES);
            System.arraycopy(other.miles, 0, miles, 0, MOST_PICTURES);
            size = other.size;
        }

        private int addPicture(int day, int mile) {
            days[size] = day;
            miles[size] = mile;
            size++;
            return size - 1;
        }

        private boolean reachesBeyond(int mile) {
            for (int i = 0; i < size; i++) {
                if (miles[i] > mile) {
                    return true;
                }
            }
            return false;
        }

        /** The picture with which the row begins that proves most; -1 without pictures. */
        private int firstOfBestRow(int v) {
            lineUpByDays();
            for (int i = 0; i < size; i++) {
                fillRowOf(latestFirst[i], v);
            }
            int first = -1;
            for (int i = 0; i < size; i++) {
                if (first < 0 || rowSizes[i] > rowSizes[first]
                        || rowSizes[i] == rowSizes[first] && rowMiles(i) > rowMiles(first)) {
                    first = i;
                }
            }
            return first;
        }

        private void lineUpByDays() {
            for (int i = 0; i < size; i++) {
                int at = i;
                while (at > 0 && days[latestFirst[at - 1]] < days[i]) {
                    latestFirst[at] = latestFirst[at - 1];
                    at--;
                }
                latestFirst[at] = i;
            }
        }

        /** All pictures of later days have their rows already. */
        private void fillRowOf(int picture, int v) {
            int next = -1;
            for (int i = 0; i < size; i++) {
                if (mayFollow(picture, i, v) && (next < 0 || provesMore(i, next))) {
                    next = i;
                }
            }
            rowNexts[picture] = next;
            rowSizes[picture] = next < 0 ? 1 : 1 + rowSizes[next];
            rowEnds[picture] = next < 0 ? miles[picture] : rowEnds[next];
        }

        private boolean mayFollow(int picture, int later, int v) {
            int between = days[later] - days[picture];
            return between > 0 && within(miles[later] - miles[picture], 0, v * between);
        }

        private boolean provesMore(int picture, int other) {
            return rowSizes[picture] > rowSizes[other]
                    || rowSizes[picture] == rowSizes[other] && rowEnds[picture] > rowEnds[other];
        }

        private int rowMiles(int first) {
            return rowEnds[first] - miles[first];
        }

        private int pictureOfRow(int first, int steps) {
            if (first < 0 || steps < 0 || steps >= rowSizes[first]) {
                return NONE;
            }
            int picture = first;
            for (int i = 0; i < steps && rowNexts[picture] >= 0; i++) {
                picture = rowNexts[picture];
            }
            return picture;
        }
    }

    /** A row of bytes, ints or longs; each place holds a number that its sort can have. */
    private static final class Sheet {
        private static final int MISSING = -1, BYTES = 0, LONGS = 2;
        private static final int MOST_PLACES = 24;

        private int sort = MISSING;
        private int size;
        private final long[] places = new long[MOST_PLACES];

        private void clearAs(int newSort, int newSize) {
            sort = newSort;
            size = newSize;
            Arrays.fill(places, 0L);
        }

        private long total() {
            long all = 0;
            for (int i = 0; i < size; i++) {
                all += places[i];
            }
            return all;
        }

        /** Whether many places from one on are there; of none also the place behind the last one. */
        private boolean hasStretch(int place, int many) {
            return place >= 0 && many >= 0 && place <= size && many <= size - place;
        }
    }
}
