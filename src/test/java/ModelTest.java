import java.util.ArrayList;
import java.util.Arrays;
import java.util.List;
import java.util.Random;

/**
 * Runs of random calls on LongTrail and on a slow model of the document, written in another way (mile by mile,
 * all sets, all rows, texts worked out from their signs); every answer is due to be the same.
 */
public final class ModelTest {
    private static final int RUNS = 3000;
    private static final int CALLS = 300;
    // Calls that come first in some runs, so often that nothing more has room: the numbers that Caller has for them.
    private static final int[] FILLING = {0, 7, 10, 15, 24, 35, 40, 43};
    private static final int BAD = Due.BAD, NO = Due.NO, FULL = Due.FULL, NONE = Due.NONE, KIND = Due.KIND;

    /** Given two numbers: the first run, and how many; without them the runs that .ci/run makes. */
    public static void main(String[] args) {
        int first = args.length < 2 ? 0 : Integer.parseInt(args[0]);
        int runs = args.length < 2 ? RUNS : Integer.parseInt(args[1]);
        int wrong = 0;
        for (int run = first; run < first + runs && wrong < 10; run++) {
            wrong += oneRun(run);
        }
        for (int seed = 0; seed < 60000 && wrong < 10; seed++) {
            wrong += oneText(seed);
        }
        Due.is("runs with a wrong answer", wrong, 0);
        Due.end("ModelTest");
    }

    private static int oneRun(int seed) {
        Random r = new Random(seed);
        LongTrail x = new LongTrail();
        Model m = new Model();
        StringBuilder log = new StringBuilder();
        int filling = seed % 4 == 0 ? FILLING.length * 50 : 0;
        for (int call = 0; call < filling + CALLS; call++) {
            int kind = call < filling ? FILLING[call / 50] : r.nextInt(48);
            long[] two = Caller.call(kind, r, x, m, log);
            if (two[0] != two[1]) {
                System.out.println("run " + seed + ":" + log + " answered " + two[0] + ", the model " + two[1]);
                return 1;
            }
        }
        return 0;
    }

    /** A text of random words against a stack of open signs: where it has its fault. */
    private static int oneText(int seed) {
        Random r = new Random(seed);
        String signs = Caller.randomText(r, seed % 3 == 0);
        if (signs.length() > 96) {
            return 0;
        }
        LongTrail x = new LongTrail();
        int got = Due.text(x, 0, 0, signs);
        int fault = Model.faultOf(signs);
        int want = fault < 0 ? 0 : -100 - fault;
        if (got != want) {
            System.out.println("<" + signs + "> answered " + got + ", the model " + want);
            return 1;
        }
        return 0;
    }

    /** Makes the same call of both. */
    private static final class Caller {
        static long[] call(int kind, Random r, LongTrail x, Model m, StringBuilder log) {
            int[] v = new int[5];
            switch (kind) {
                case 0: case 1: {
                    v[0] = r.nextInt(7) - (r.nextInt(9) == 0 ? 1 : 0);
                    v[1] = r.nextInt(8) == 0 ? r.nextInt(430) - 5 : r.nextInt(90);
                    v[2] = v[0] < 2 ? r.nextInt(20) / 19 : r.nextInt(4);
                    log(log, "place", v, 3);
                    return two(x.place(v[0], v[1], v[2]), m.place(v[0], v[1], v[2]));
                }
                case 2:
                    v[0] = some(r, 16);
                    v[1] = some(r, 6);
                    log(log, "told", v, 2);
                    return two(x.told(v[0], v[1]), m.told(v[0], v[1]));
                case 3:
                    v[0] = some(r, 16);
                    v[1] = some(r, 6);
                    log(log, "as", v, 2);
                    return two(x.as(v[0], v[1]), m.as(v[0], v[1]));
                case 4:
                    v[0] = some(r, 16);
                    v[1] = r.nextInt(131) - 1;
                    log(log, "shut", v, 2);
                    return two(x.shut(v[0], v[1]), m.shut(v[0], v[1]));
                case 5:
                    v[0] = some(r, 4);
                    v[1] = r.nextInt(5) == 0 ? NONE : some(r, 100);
                    log(log, "land", v, 2);
                    return two(x.land(v[0], v[1]), m.land(v[0], v[1]));
                case 6:
                    v[0] = some(r, 100);
                    log(log, "landAt", v, 1);
                    return two(x.landAt(v[0]), m.landAt(v[0]));
                case 7:
                    v[0] = r.nextInt(3) == 0 ? m.mileOfSomeone(r) : some(r, 80);
                    v[1] = v[0] + r.nextInt(20) - 1;
                    v[2] = 1000 * r.nextInt(m.day + 5) + m.day + r.nextInt(10) - 1;
                    log(log, "fire", v, 3);
                    return two(x.fire(v[0], v[1], v[2]), m.fire(v[0], v[1], v[2]));
                case 8:
                    v[0] = some(r, 90);
                    log(log, "burns", v, 1);
                    return two(x.burns(v[0]), m.burns(v[0]));
                case 9:
                    v[0] = some(r, 90);
                    log(log, "dry", v, 1);
                    return two(x.dry(v[0]), m.dry(v[0]));
                case 10: case 11: case 12: {
                    String signs = randomText(r, false);
                    if (signs.length() > 96) {
                        return two(0, 0);
                    }
                    v[0] = r.nextInt(3) == 0 ? 0 : some(r, 4);
                    v[1] = r.nextInt(3) == 0 ? some(r, 1000) : r.nextInt(m.day + 4);
                    log(log, "text <" + signs + ">", v, 2);
                    return two(Due.text(x, v[0], v[1], signs), m.text(v[0], v[1], signs));
                }
                case 13:
                    v[0] = some(r, 12);
                    v[1] = some(r, 4);
                    log(log, "of", v, 2);
                    return two(x.of(v[0], v[1]), m.of(v[0], v[1]));
                case 14:
                    v[0] = some(r, 4);
                    v[1] = some(r, 4);
                    log(log, "why", v, 2);
                    return two(x.why(v[0], v[1]), m.why(v[0], v[1]));
                case 15: case 16:
                    v[0] = m.day + r.nextInt(8) - 1;
                    v[1] = r.nextInt(3) == 0 ? some(r, 41) : 1 + r.nextInt(12);
                    v[2] = some(r, 6);
                    v[3] = 1 + r.nextInt(20);
                    v[4] = 1 + r.nextInt(25);
                    log(log, "walker", v, 5);
                    return two(x.walker(v[0], v[1], v[2], v[3], v[4]), m.walker(v[0], v[1], v[2], v[3], v[4]));
                case 17: case 18: case 19:
                    v[0] = some(r, 10);
                    v[1] = some(r, 15);
                    log(log, "is", v, 2);
                    return two(x.is(v[0], v[1]), m.is(v[0], v[1]));
                case 20:
                    v[0] = some(r, 10);
                    log(log, "shoes", v, 1);
                    return two(x.shoes(v[0]), m.shoes(v[0]));
                case 21:
                    v[0] = some(r, 10);
                    v[1] = some(r, 10) / (1 + r.nextInt(4));
                    log(log, "zero", v, 2);
                    return two(x.zero(v[0], v[1]), m.zero(v[0], v[1]));
                case 22: case 23:
                    v[0] = some(r, 10);
                    v[1] = some(r, 21);
                    log(log, "finds", v, 2);
                    return two(x.finds(v[0], v[1]), m.finds(v[0], v[1]));
                case 24: case 25: case 26:
                    v[0] = some(r, 10);
                    v[1] = some(r, 16);
                    v[2] = some(r, 21);
                    v[3] = some(r, 100) / (1 + r.nextInt(30));
                    log(log, "box", v, 4);
                    return two(x.box(v[0], v[1], v[2], v[3]), m.box(v[0], v[1], v[2], v[3]));
                case 27:
                    v[0] = some(r, 20);
                    v[1] = some(r, 16);
                    v[2] = some(r, 100) / (1 + r.nextInt(30));
                    log(log, "send", v, 3);
                    return two(x.send(v[0], v[1], v[2]), m.send(v[0], v[1], v[2]));
                case 28:
                    v[0] = some(r, 20);
                    v[1] = some(r, 5);
                    log(log, "boxTold", v, 2);
                    return two(x.boxTold(v[0], v[1]), m.boxTold(v[0], v[1]));
                case 29: case 30: case 31: case 32:
                    v[0] = r.nextInt(20) == 0 ? some(r, 61) : 1 + r.nextInt(3);
                    log(log, "run", v, 1);
                    return two(x.run(v[0]) * 1000003L + hash(x), m.run(v[0]) * 1000003L + m.hash());
                case 33:
                    v[0] = some(r, 61);
                    log(log, "crowd", v, 1);
                    return two(x.crowd(v[0]), m.crowd(v[0]));
                case 34:
                    v[0] = some(r, 7);
                    v[1] = some(r, 10) / (1 + r.nextInt(4));
                    log(log, "quota", v, 2);
                    return two(x.quota(v[0], v[1]), m.quota(v[0], v[1]));
                case 35:
                    v[0] = r.nextInt(6) == 0 ? 994 + r.nextInt(7) : r.nextInt(9) - 1;
                    v[1] = some(r, 10) / (1 + r.nextInt(3));
                    log(log, "wish", v, 2);
                    return two(x.wish(v[0], v[1]), m.wish(v[0], v[1]));
                case 36:
                    v[0] = some(r, 16);
                    log(log, "granted", v, 1);
                    return two(x.granted(v[0]), m.granted(v[0]));
                case 37:
                    v[0] = some(r, 10);
                    log(log, "would", v, 1);
                    return two(x.would(v[0]), m.would(v[0]));
                case 38:
                    v[0] = some(r, 100) / (1 + r.nextInt(50));
                    log(log, "cost", v, 1);
                    return two(x.cost(v[0]), m.cost(v[0]));
                case 39:
                    v[0] = some(r, 41);
                    v[1] = some(r, 21);
                    v[2] = some(r, 3);
                    log(log, "plan", v, 3);
                    return two(x.plan(v[0], v[1], v[2]), m.plan(v[0], v[1], v[2]));
                case 40:
                    v[0] = some(r, 16);
                    v[1] = some(r, 16);
                    v[2] = some(r, 1000);
                    log(log, "ride", v, 3);
                    return two(x.ride(v[0], v[1], v[2]), m.ride(v[0], v[1], v[2]));
                case 41:
                    v[0] = some(r, 16);
                    v[1] = some(r, 16);
                    log(log, "minutes", v, 2);
                    return two(x.minutes(v[0], v[1]), m.minutes(v[0], v[1]));
                case 42:
                    v[0] = some(r, 6);
                    log(log, "round", v, 1);
                    return two(x.round(v[0]), m.round(v[0]));
                case 43:
                    v[0] = r.nextInt(9) - (r.nextInt(9) == 0 ? 1 : 0);
                    v[1] = some(r, 25);
                    log(log, "picture", v, 2);
                    return two(x.picture(v[0], v[1]), m.picture(v[0], v[1]));
                case 44:
                    v[0] = some(r, 100) / (1 + r.nextInt(60));
                    v[1] = some(r, 8);
                    log(log, "proved", v, 2);
                    return two(x.proved(v[0], v[1]), m.proved(v[0], v[1]));
                case 45:
                    log(log, "keep", v, 0);
                    return r.nextInt(2) == 0 ? two(x.keep(), m.keep()) : two(x.back(), m.back());
                case 46: {
                    v[0] = some(r, 31);
                    log(log, "tell and check", v, 1);
                    int[] due = m.daysTold(v[0]);
                    int told = r.nextInt(4) == 0 ? r.nextInt(61) : due.length;
                    int wrong = r.nextInt(3) == 0 ? r.nextInt(60) : -1;
                    for (int i = 0; i < told; i++) {
                        x.tell((i < due.length ? due[i] : 0) + (i == wrong ? 1 : 0));
                    }
                    int right = 0;
                    while (right < Math.min(told, due.length) && right != wrong) {
                        right++;
                    }
                    boolean all = right == told && right == due.length;
                    int want = v[0] < 1 || v[0] > 30 ? BAD : m.image == null ? NO : all ? 0 : 1 + right;
                    return two(x.check(v[0]), want);
                }
                default:
                    v[0] = r.nextInt(3) == 0 ? 17 : some(r, 18);
                    if (r.nextInt(3) == 0) {
                        v[0] = 20 + r.nextInt(200) - 2;
                        log(log, "length", v, 1);
                        return two(x.length(v[0]), m.length(v[0]));
                    }
                    log(log, "count", v, 1);
                    return two(x.count(v[0]), m.count(v[0]));
            }
        }

        private static long hash(LongTrail x) {
            long all = 0;
            for (int i = 0; i < 10; i++) {
                for (int what = 0; what <= 14; what++) {
                    all = all * 31 + x.is(i, what);
                }
            }
            return all;
        }

        /** Mostly 0 .. many - 1, often small; seldom a step out of that. */
        private static int some(Random r, int many) {
            int kind = r.nextInt(20);
            if (kind == 0) {
                return -1;
            }
            return kind == 1 ? many : r.nextInt(kind < 8 ? Math.min(many, 4) : many);
        }

        private static long[] two(long a, long b) {
            return new long[] {a, b};
        }

        private static void log(StringBuilder log, String name, int[] v, int many) {
            log.append("\n  ").append(name).append(Arrays.toString(Arrays.copyOf(v, many)));
        }

        static String randomText(Random r, boolean wild) {
            String[] keys = {"camp", "skip", "quit", "draw"};
            String[] names = {"mn", "lf", "htsw", "dp"};
            int key = r.nextInt(4);
            StringBuilder s = new StringBuilder(r.nextInt(9) == 0 ? " " : "").append(keys[key]);
            s.append(r.nextInt(20) == 0 ? "" : " ");
            if (wild) {
                String[] words = {"(", ")", "!", "!!!!", "((((", "))))", "1", "12345", "9999", "m", "d", "h", "+", "-", "*", "/",
                    "<", "=", ">", "&", "|", " ", "#", "" + names[key].charAt(0), "" + names[key].charAt(1), "!", "(", ")"};
                int many = r.nextInt(24);
                for (int i = 0; i < many; i++) {
                    s.append(words[r.nextInt(words.length)]);
                }
                return s.toString();
            }
            expression(s, r, names[key], 0, 3);
            if (r.nextInt(6) == 0) {
                int at = r.nextInt(s.length());
                s.setCharAt(at, "()!1m+<&| #".charAt(r.nextInt(11)));
            }
            return s.toString();
        }

        private static void expression(StringBuilder s, Random r, String names, int level, int depth) {
            String[] signs = {"|", "&", "<=>", "+-", "*/"};
            if (level == 5) {
                int kind = r.nextInt(8);
                if (kind == 0 && depth > 0) {
                    s.append('(');
                    expression(s, r, names, 0, depth - 1);
                    s.append(r.nextInt(5) == 0 ? " )" : ")");
                } else if (kind == 1) {
                    s.append('!');
                    expression(s, r, names, 5, depth);
                } else if (kind < 5) {
                    s.append(names.charAt(r.nextInt(names.length())));
                } else {
                    s.append(r.nextInt(4) == 0 ? r.nextInt(12000) : r.nextInt(12));
                }
                return;
            }
            expression(s, r, names, level + 1, depth);
            int more = r.nextInt(4) == 0 ? 1 + r.nextInt(2) : 0;
            for (int i = 0; i < (level == 2 ? Math.min(1, more) : more); i++) {
                s.append(r.nextInt(6) == 0 ? " " : "").append(signs[level].charAt(r.nextInt(signs[level].length())));
                expression(s, r, names, level + 1, depth);
            }
        }
    }

    /** The slow model. */
    private static final class Model {
        static final String[] KEYS = {"camp", "skip", "quit", "draw"};
        static final String[] NAMES = {"mn", "lf", "htsw", "dp"};
        int length = 400;
        int day;
        int cost = 10;
        int[] begins = {0, NONE, NONE, NONE};
        int[] quotas = {1, 1, 1, 1, 1, 1, 1};
        List<int[]> places = new ArrayList<>();
        List<int[]> fires = new ArrayList<>();
        List<int[]> boxes = new ArrayList<>();
        List<int[]> wishes = new ArrayList<>();
        List<int[]> rides = new ArrayList<>();
        List<int[]> pictures = new ArrayList<>();
        List<int[]> walkers = new ArrayList<>();
        List<String> texts = new ArrayList<>();
        List<int[]> textNumbers = new ArrayList<>();
        Model image;

        Model twin() {
            Model t = new Model();
            t.take(this);
            return t;
        }

        void take(Model o) {
            length = o.length;
            day = o.day;
            cost = o.cost;
            begins = o.begins.clone();
            quotas = o.quotas.clone();
            places = deep(o.places);
            fires = deep(o.fires);
            boxes = deep(o.boxes);
            wishes = deep(o.wishes);
            rides = deep(o.rides);
            pictures = deep(o.pictures);
            walkers = deep(o.walkers);
            texts = new ArrayList<>(o.texts);
            textNumbers = deep(o.textNumbers);
        }

        static List<int[]> deep(List<int[]> rows) {
            List<int[]> all = new ArrayList<>();
            for (int[] row : rows) {
                all.add(row.clone());
            }
            return all;
        }

        static boolean out(int v, int least, int most) {
            return v < least || v > most;
        }

        static boolean not(List<?> rows, int i) {
            return i < 0 || i >= rows.size();
        }

        static int add(List<int[]> rows, int... row) {
            rows.add(row);
            return rows.size() - 1;
        }

        int mileOfSomeone(Random r) {
            return walkers.isEmpty() ? 3 : walkers.get(r.nextInt(walkers.size()))[1];
        }

        // ---- the trail; places are kind, mile, a, shut

        int length(int v) {
            if (out(v, 20, 2000)) {
                return BAD;
            }
            boolean beyond = !walkers.isEmpty() || places.stream().anyMatch(p -> p[1] > v)
                    || fires.stream().anyMatch(f -> f[1] > v) || pictures.stream().anyMatch(p -> p[1] > v);
            int was = length;
            length = beyond ? length : v;
            return beyond ? NO : was;
        }

        int place(int kind, int mile, int a) {
            int[] least = {0, 0, 1, 1, 0, 1};
            int[] most = {0, 0, 9, 9, 142, 9};
            if (out(kind, 0, 5) || out(mile, 0, length) || out(a, least[kind], most[kind])) {
                return BAD;
            }
            if (places.stream().anyMatch(p -> p[1] == mile)) {
                return NO;
            }
            return places.size() == 16 ? FULL : add(places, kind, mile, a, 0);
        }

        int told(int place, int what) {
            if (not(places, place) || out(what, 0, 5)) {
                return BAD;
            }
            int[] p = places.get(place);
            if (what == 4) {
                return (int) walkers.stream().filter(w -> w[0] == 1 && w[1] == p[1]).count();
            }
            return what == 5 ? (int) boxes.stream().filter(b -> b[1] == place && b[4] == 0).count() : p[what];
        }

        static boolean under(int kind, int above) {
            String[] all = {"0", "01", "012", "0123", "04", "015"};
            return all[kind].indexOf('0' + above) >= 0;
        }

        int as(int place, int kind) {
            if (not(places, place) || out(kind, 0, 5)) {
                return BAD;
            }
            return under(places.get(place)[0], kind) ? places.get(place)[2] : KIND;
        }

        int shut(int place, int v) {
            if (not(places, place) || out(v, 0, 127)) {
                return BAD;
            }
            int[] p = places.get(place);
            if (p[0] != 3) {
                return KIND;
            }
            int was = p[3];
            p[3] = v;
            return was;
        }

        int land(int land, int mile) {
            if (out(land, 1, 3) || mile != NONE && out(mile, 0, length)) {
                return BAD;
            }
            int was = begins[land];
            begins[land] = mile;
            return was;
        }

        int landAt(int mile) {
            if (out(mile, 0, length)) {
                return BAD;
            }
            int found = 0;
            for (int i = 1; i < 4; i++) {
                found = begins[i] != NONE && begins[i] <= mile ? i : found;
            }
            return found;
        }

        int fire(int from, int to, int days) {
            if (out(from, 0, length) || out(to, from + 1, length) || days < 0) {
                return BAD;
            }
            int first = days / 1000;
            int last = days - 1000 * first;
            if (first > 999 || last < first) {
                return BAD;
            }
            return fires.size() == 6 ? FULL : add(fires, from, to, first, last);
        }

        boolean on(int[] f) {
            return f[2] <= day && day <= f[3];
        }

        int burns(int mile) {
            if (out(mile, 0, length)) {
                return BAD;
            }
            return fires.stream().anyMatch(f -> on(f) && f[0] <= mile && mile < f[1]) ? 1 : 0;
        }

        boolean waterAt(int mile) {
            return places.stream().anyMatch(p -> p[1] == mile && under(p[0], 1));
        }

        int dry(int mile) {
            if (out(mile, 0, length)) {
                return BAD;
            }
            for (int m = mile + 1; m <= length; m++) {
                if (waterAt(m)) {
                    return m - mile;
                }
            }
            return NONE;
        }

        // ---- texts

        int text(int land, int when, String signs) {
            if (out(land, 0, 3) || out(when, 0, 999)) {
                return BAD;
            }
            int fault = faultOf(signs);
            if (fault >= 0) {
                return -100 - fault;
            }
            if (texts.size() == 12) {
                return FULL;
            }
            String plain = signs.trim();
            int key = Arrays.asList(KEYS).indexOf(plain.substring(0, 4));
            String e = plain.substring(4).replace(" ", "");
            texts.add(e);
            int operands = e.replaceAll("[0-9]+|[a-z]", "@").replaceAll("[^@]", "").length();
            textNumbers.add(new int[] {key, land, when, operands});
            return texts.size() - 1;
        }

        int of(int text, int what) {
            return not(texts, text) || out(what, 0, 3) ? BAD : textNumbers.get(text)[what];
        }

        int why(int land, int key) {
            if (out(land, 0, 3) || out(key, 0, 3)) {
                return BAD;
            }
            for (int d = day; d >= 0; d--) {
                for (int i = texts.size() - 1; i >= 0; i--) {
                    int[] t = textNumbers.get(i);
                    if (t[0] == key && t[1] == land && t[2] == d) {
                        return i;
                    }
                }
            }
            return NONE;
        }

        int ask(int land, int key, int otherwise, int... values) {
            int text = why(land, key);
            return text < 0 ? otherwise : worth(texts.get(text), NAMES[key], values);
        }

        /** Parts the text at its loosest sign that stands farthest back outside of all brackets. */
        static int worth(String e, String names, int[] values) {
            String[] levels = {"|", "&", "<=>", "+-", "*/"};
            for (String level : levels) {
                int open = 0;
                for (int i = e.length() - 1; i > 0; i--) {
                    open += e.charAt(i) == ')' ? 1 : e.charAt(i) == '(' ? -1 : 0;
                    if (open == 0 && level.indexOf(e.charAt(i)) >= 0) {
                        int a = worth(e.substring(0, i), names, values);
                        int b = worth(e.substring(i + 1), names, values);
                        switch (e.charAt(i)) {
                            case '|': return a == 0 && b == 0 ? 0 : 1;
                            case '&': return a == 0 || b == 0 ? 0 : 1;
                            case '<': return a < b ? 1 : 0;
                            case '=': return a == b ? 1 : 0;
                            case '>': return a > b ? 1 : 0;
                            case '+': return a + b;
                            case '-': return a - b;
                            case '*': return a * b;
                            default: return b == 0 ? 0 : a / b;
                        }
                    }
                }
            }
            if (e.charAt(0) == '!') {
                return worth(e.substring(1), names, values) == 0 ? 1 : 0;
            }
            if (e.charAt(0) == '(') {
                return worth(e.substring(1, e.length() - 1), names, values);
            }
            return Character.isDigit(e.charAt(0)) ? Integer.parseInt(e) : values[names.indexOf(e.charAt(0))];
        }

        /** Goes through the words with a stack of open signs; '?' marks a test within what is open. */
        static int faultOf(String s) {
            StringBuilder open = new StringBuilder();
            String names = null;
            boolean operand = true;
            int lastWordEnd = -1;
            for (int i = 0; i < s.length();) {
                char c = s.charAt(i);
                if (c == ' ') {
                    i++;
                    continue;
                }
                int end = i + 1;
                boolean letters = c >= 'a' && c <= 'z';
                boolean digits = c >= '0' && c <= '9';
                while (end < s.length() && (letters && s.charAt(end) >= 'a' && s.charAt(end) <= 'z'
                        || digits && s.charAt(end) >= '0' && s.charAt(end) <= '9')) {
                    end++;
                }
                String word = s.substring(i, end);
                if ((letters || digits) && lastWordEnd == i) {
                    return i;
                }
                if (names == null) {
                    int key = Arrays.asList(KEYS).indexOf(word);
                    if (key < 0) {
                        return i;
                    }
                    names = NAMES[key];
                } else if (operand) {
                    if (digits && word.length() <= 4 || letters && word.length() == 1 && names.contains(word)) {
                        operand = false;
                        closeNots(open);
                    } else if ((c == '(' || c == '!') && open.chars().filter(o -> o == c).count() < 8) {
                        open.append(c);
                    } else {
                        return i;
                    }
                } else if (c == ')') {
                    dropTest(open);
                    if (open.length() == 0) {
                        return i;
                    }
                    open.setLength(open.length() - 1);
                    closeNots(open);
                } else if ("+-*/&|<=>".indexOf(c) >= 0) {
                    boolean test = open.length() > 0 && open.charAt(open.length() - 1) == '?';
                    if ("<=>".indexOf(c) >= 0) {
                        if (test) {
                            return i;
                        }
                        open.append('?');
                    } else if (c == '&' || c == '|') {
                        dropTest(open);
                    }
                    operand = true;
                } else {
                    return i;
                }
                lastWordEnd = letters || digits ? end : -1;
                i = end;
            }
            dropTest(open);
            return names == null || operand || open.length() > 0 ? s.length() : -1;
        }

        private static void closeNots(StringBuilder open) {
            while (open.length() > 0 && open.charAt(open.length() - 1) == '!') {
                open.setLength(open.length() - 1);
            }
        }

        private static void dropTest(StringBuilder open) {
            if (open.length() > 0 && open.charAt(open.length() - 1) == '?') {
                open.setLength(open.length() - 1);
            }
        }

        // ---- walkers: 0 to 13 as told, 14 start, 15 gain, 16 carry, 17 skin; boxes: as told

        int walker(int start, int pace, int gain, int carry, int skin) {
            if (out(start, day, 999) || out(pace, 1, 40) || out(gain, 0, 5) || out(carry, 1, 20) || out(skin, 1, 99)) {
                return BAD;
            }
            if (walkers.size() == 10) {
                return FULL;
            }
            int[] w = new int[18];
            w[2] = pace;
            w[14] = start;
            w[15] = gain;
            w[16] = carry;
            w[17] = skin;
            return add(walkers, w);
        }

        int is(int walker, int what) {
            if (not(walkers, walker) || out(what, 0, 14)) {
                return BAD;
            }
            return what < 14 ? walkers.get(walker)[what]
                    : (int) boxes.stream().filter(b -> b[0] == walker && b[4] == 0).count();
        }

        long hash() {
            long all = 0;
            for (int i = 0; i < 10; i++) {
                for (int what = 0; what <= 14; what++) {
                    all = all * 31 + is(i, what);
                }
            }
            return all;
        }

        int[] placeAt(int mile) {
            return places.stream().filter(p -> p[1] == mile).findFirst().orElse(new int[] {0, mile, 0, 0});
        }

        int shoes(int walker) {
            if (not(walkers, walker)) {
                return BAD;
            }
            int[] w = walkers.get(walker);
            if (w[0] != 1 || placeAt(w[1])[0] != 3) {
                return NO;
            }
            int was = w[8];
            w[8] = 0;
            return was;
        }

        int zero(int walker, int n) {
            if (not(walkers, walker) || out(n, 0, 9)) {
                return BAD;
            }
            int[] w = walkers.get(walker);
            int was = w[9];
            w[9] = w[0] == 1 ? n : was;
            return w[0] == 1 ? was : NO;
        }

        int finds(int walker, int n) {
            if (not(walkers, walker) || out(n, 1, 20)) {
                return BAD;
            }
            int[] w = walkers.get(walker);
            w[3] = w[0] == 1 ? Math.min(w[16], w[3] + n) : w[3];
            return w[0] == 1 ? w[3] : NO;
        }

        int box(int walker, int place, int food, int n) {
            if (not(walkers, walker) || not(places, place) || out(food, 1, 20) || out(n, 0, 99)) {
                return BAD;
            }
            if (places.get(place)[0] != 3) {
                return KIND;
            }
            if (walkers.get(walker)[0] > 1) {
                return NO;
            }
            return boxes.size() == 20 ? FULL : add(boxes, walker, place, food, day + n, 0);
        }

        int send(int box, int place, int n) {
            if (not(boxes, box) || not(places, place) || out(n, 0, 99)) {
                return BAD;
            }
            if (places.get(place)[0] != 3) {
                return KIND;
            }
            if (boxes.get(box)[4] != 0) {
                return NO;
            }
            boxes.get(box)[1] = place;
            boxes.get(box)[3] = day + n;
            return 1;
        }

        int boxTold(int box, int what) {
            return not(boxes, box) || out(what, 0, 4) ? BAD : boxes.get(box)[what];
        }

        int run(int n) {
            if (out(n, 1, 60)) {
                return BAD;
            }
            if (day + n > 999) {
                return FULL;
            }
            for (int i = 0; i < n; i++) {
                oneDay();
            }
            return day;
        }

        int crowd(int n) {
            if (out(n, 1, 60)) {
                return BAD;
            }
            if (day + n > 999) {
                return FULL;
            }
            Model t = twin();
            int most = 0;
            for (int i = 0; i < n; i++) {
                most = Math.max(most, t.oneDay());
            }
            return most;
        }

        int oneDay() {
            for (int[] w : walkers) {
                if (w[0] == 0 && w[14] <= day) {
                    w[0] = 1;
                    w[1] = 0;
                    w[3] = w[16];
                }
            }
            for (int i = 0; i < walkers.size(); i++) {
                if (walkers.get(i)[0] == 1) {
                    walkersDay(i, walkers.get(i));
                }
            }
            int most = 0;
            for (int mile = 0; mile <= length; mile++) {
                most = Math.max(most, night(mile));
            }
            day++;
            return most;
        }

        List<int[]> openHere(int i, int mile) {
            List<int[]> all = new ArrayList<>();
            for (int[] b : boxes) {
                if (b[0] == i && b[4] == 0 && places.get(b[1])[1] == mile) {
                    all.add(b);
                }
            }
            return all;
        }

        void walkersDay(int i, int[] w) {
            if (w[9] > 0) {
                w[9]--;
                return;
            }
            List<int[]> here = openHere(i, w[1]);
            if (!here.isEmpty()) {
                boolean shutNow = (placeAt(w[1])[3] & 1 << day % 7) != 0;
                boolean anyThere = here.stream().anyMatch(b -> b[3] <= day);
                if (anyThere && !shutNow) {
                    for (int[] b : here) {
                        if (b[3] <= day) {
                            b[4] = 1;
                            w[3] = Math.min(w[16], w[3] + b[2]);
                        }
                    }
                } else if (++w[10] <= 3) {
                    return;
                } else {
                    here.forEach(b -> b[4] = 2);
                }
            }
            w[10] = 0;
            int walked = 0;
            int longest = 0;
            for (int[] f : fires) {
                longest = on(f) && f[0] == w[1] ? Math.max(longest, f[1] - f[0]) : longest;
            }
            if (longest > 0 && ask(landAt(w[1]), 1, 0, longest, w[3]) != 0) {
                w[1] += longest;
                w[13] += longest;
            } else {
                int most = w[3] == 0 ? w[2] / 2 : w[2];
                while (walked < most && !held(i, w[1], walked)) {
                    w[1]++;
                    walked++;
                    w[6] = waterAt(w[1]) ? 0 : w[6] + 1;
                }
            }
            w[4] = w[3] == 0 ? w[4] + 1 : 0;
            w[3] = w[3] == 0 ? 0 : w[3] - 1;
            w[7]++;
            if (w[7] % 7 == 0) {
                w[2] = Math.min(40, w[2] + w[15]);
            }
            w[8] += walked;
            w[5] += w[6] > w[17] ? 1 : 0;
            boolean quits = ask(landAt(w[1]), 2, w[4] > 2 ? 1 : 0, w[4], w[5], w[8], w[7]) != 0;
            w[0] = quits ? 2 : w[1] == length ? 3 : 1;
            for (int[] b : boxes) {
                b[4] = w[0] > 1 && b[0] == i && b[4] == 0 ? 2 : b[4];
            }
        }

        /** Whether one that has walked so far today may not go on from a mile. */
        boolean held(int i, int mile, int walked) {
            int[] p = placeAt(mile);
            return mile == length || p[0] == 4 && day / 7 <= p[2]
                    || fires.stream().anyMatch(f -> on(f) && f[0] == mile)
                    || walked > 0 && !openHere(i, mile).isEmpty();
        }

        int night(int mile) {
            List<int[]> all = new ArrayList<>();
            for (int[] w : walkers) {
                if (w[0] == 1 && w[1] == mile) {
                    all.add(w);
                }
            }
            int[] p = placeAt(mile);
            int beds = p[0] == 2 || p[0] == 3 || p[0] == 5 ? p[2] : 0;
            for (int i = beds; i < all.size(); i++) {
                all.get(i)[11]++;
                all.get(i)[12] += ask(landAt(mile), 0, 1, mile, all.size()) == 0 ? 1 : 0;
            }
            return all.size();
        }

        // ---- permits, plans

        int quota(int weekday, int v) {
            if (out(weekday, 0, 6) || out(v, 0, 9)) {
                return BAD;
            }
            int was = quotas[weekday];
            quotas[weekday] = v;
            return was;
        }

        int wish(int when, int later) {
            if (out(when, 0, 999) || out(later, 0, 9)) {
                return BAD;
            }
            return wishes.size() == 16 ? FULL : add(wishes, when, later);
        }

        int[] grant(int[] by) {
            int n = wishes.size();
            List<Integer> order = new ArrayList<>();
            int[] worths = new int[n];
            for (int i = 0; i < n; i++) {
                int when = wishes.get(i)[0];
                int same = (int) wishes.stream().filter(w -> w[0] == when).count();
                worths[i] = ask(0, 3, 0, when, same);
                order.add(i);
            }
            order.sort((a, b) -> worths[a] != worths[b] ? Integer.compare(worths[b], worths[a]) : Integer.compare(a, b));
            int[] taken = new int[1100];
            int[] got = new int[n];
            for (int i : order) {
                got[i] = NONE;
                for (int d = wishes.get(i)[0] + wishes.get(i)[1]; d >= wishes.get(i)[0]; d--) {
                    got[i] = taken[d] < by[d % 7] ? d : got[i];
                }
                if (got[i] != NONE) {
                    taken[got[i]]++;
                }
            }
            return got;
        }

        int granted(int wish) {
            return not(wishes, wish) ? BAD : grant(quotas)[wish];
        }

        int would(int q) {
            if (out(q, 0, 9)) {
                return BAD;
            }
            return (int) Arrays.stream(grant(new int[] {q, q, q, q, q, q, q})).filter(d -> d != NONE).count();
        }

        int cost(int v) {
            if (out(v, 0, 99)) {
                return BAD;
            }
            int was = cost;
            cost = v;
            return was;
        }

        int plan(int pace, int carry, int what) {
            if (out(pace, 1, 40) || out(carry, 1, 20) || out(what, 0, 2)) {
                return BAD;
            }
            int[] towns = places.stream().filter(p -> p[0] == 3).mapToInt(p -> p[1]).sorted().toArray();
            int[] best = null;
            for (int set = 0; set < 1 << towns.length; set++) {
                int weight = cost * Integer.bitCount(set);
                int at = 0;
                boolean may = true;
                for (int i = 0; i <= towns.length; i++) {
                    if (i == towns.length || (set >> i & 1) == 1) {
                        int to = i == towns.length ? length : towns[i];
                        int days = (to - at) / pace + ((to - at) % pace > 0 ? 1 : 0);
                        may &= days <= carry;
                        weight += days * days;
                        at = to;
                    }
                }
                int[] found = {weight, Integer.bitCount(set), set};
                if (may && (best == null || Arrays.compare(found, best) < 0)) {
                    best = found;
                }
            }
            return best == null ? NONE : best[what];
        }

        int ride(int place, int other, int minutes) {
            if (not(places, place) || not(places, other) || place == other || out(minutes, 1, 999)) {
                return BAD;
            }
            if (places.get(place)[0] != 3 || places.get(other)[0] != 3) {
                return KIND;
            }
            return rides.size() == 12 ? FULL : add(rides, place, other, minutes);
        }

        int minutes(int place, int other) {
            if (not(places, place) || not(places, other)) {
                return BAD;
            }
            if (places.get(place)[0] != 3 || places.get(other)[0] != 3) {
                return KIND;
            }
            int found = way(place, other, 0);
            return found < 0 ? NONE : found;
        }

        /** All ways that use no ride twice. */
        int way(int at, int to, int used) {
            if (at == to) {
                return 0;
            }
            int best = -1;
            for (int i = 0; i < rides.size(); i++) {
                int[] ride = rides.get(i);
                if ((used >> i & 1) == 0 && (ride[0] == at || ride[1] == at)) {
                    int rest = way(ride[0] + ride[1] - at, to, used | 1 << i);
                    best = rest >= 0 && (best < 0 || rest + ride[2] < best) ? rest + ride[2] : best;
                }
            }
            return best;
        }

        int round(int fire) {
            if (not(fires, fire)) {
                return BAD;
            }
            int[] f = fires.get(fire);
            int a = -1;
            for (int mile = 0; mile <= f[0]; mile++) {
                a = placeAt(mile)[0] == 3 ? mile : a;
            }
            int b = -1;
            for (int mile = length; mile >= f[1]; mile--) {
                b = placeAt(mile)[0] == 3 ? mile : b;
            }
            return a < 0 || b < 0 ? NONE : minutes(places.indexOf(placeAt(a)), places.indexOf(placeAt(b)));
        }

        int picture(int when, int mile) {
            if (out(when, 0, 999) || out(mile, 0, length)) {
                return BAD;
            }
            return pictures.size() == 20 ? FULL : add(pictures, when, mile);
        }

        int proved(int v, int what) {
            if (out(v, 1, 99) || what < 0) {
                return BAD;
            }
            List<Integer> best = new ArrayList<>();
            for (int i = 0; i < pictures.size(); i++) {
                best = better(best, longest(new ArrayList<>(List.of(i)), v));
            }
            if (what == 0) {
                return best.size();
            }
            if (what == 1) {
                return best.isEmpty() ? 0 : span(best);
            }
            return what - 2 < best.size() ? best.get(what - 2) : NONE;
        }

        int span(List<Integer> row) {
            return pictures.get(row.get(row.size() - 1))[1] - pictures.get(row.get(0))[1];
        }

        List<Integer> better(List<Integer> a, List<Integer> b) {
            if (a.size() != b.size()) {
                return a.size() > b.size() ? a : b;
            }
            if (a.isEmpty() || span(a) != span(b)) {
                return a.isEmpty() || span(a) > span(b) ? a : b;
            }
            for (int i = 0; i < a.size(); i++) {
                if (!a.get(i).equals(b.get(i))) {
                    return a.get(i) < b.get(i) ? a : b;
                }
            }
            return a;
        }

        List<Integer> longest(List<Integer> row, int v) {
            List<Integer> best = new ArrayList<>(row);
            int[] last = pictures.get(row.get(row.size() - 1));
            for (int i = 0; i < pictures.size(); i++) {
                int[] p = pictures.get(i);
                if (p[0] > last[0] && p[1] >= last[1] && p[1] - last[1] <= v * (p[0] - last[0])) {
                    row.add(i);
                    best = better(best, longest(row, v));
                    row.remove(row.size() - 1);
                }
            }
            return best;
        }

        // ---- rows, images

        int keep() {
            image = twin();
            return day;
        }

        int back() {
            if (image == null) {
                return NO;
            }
            take(image);
            return day;
        }

        int[] daysTold(int n) {
            if (image == null || n < 1 || n > 30) {
                return new int[0];
            }
            Model t = image.twin();
            int[] told = new int[2 * n];
            for (int i = 0; i < n; i++) {
                t.oneDay();
                told[2 * i] = t.walkers.stream().mapToInt(w -> w[1]).sum();
                told[2 * i + 1] = t.walkers.stream().mapToInt(w -> w[3]).sum();
            }
            return told;
        }

        int count(int what) {
            switch (what) {
                case 0: return places.size();
                case 1: return fires.size();
                case 2: return (int) fires.stream().filter(this::on).count();
                case 3: return walkers.size();
                case 4: case 5: case 6: case 7: return (int) walkers.stream().filter(w -> w[0] == what - 4).count();
                case 8: return boxes.size();
                case 9: return (int) boxes.stream().filter(b -> b[4] == 0).count();
                case 10: return texts.size();
                case 11: return wishes.size();
                case 12: return rides.size();
                case 13: return pictures.size();
                case 14: case 15: return 0;
                case 16: return day;
                case 17: return length;
                default: return BAD;
            }
        }
    }
}
