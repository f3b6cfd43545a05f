import java.util.function.IntUnaryOperator;

/** What all tests of the project use: answers that are due, and texts for the tape. */
final class Due {
    static final int BAD = -1000000001, NO = -1000000002, FULL = -1000000003, NONE = -1000000005,
            NOTHING = -1000000011, KIND = -1000000012, INDEX = -1000000013, SIZE = -1000000014;

    private static int asked = 0;
    private static int wrong = 0;
    private static int sentences = 0;
    private static String sentence = "";

    private Due() {
    }

    /** What is asked from here on is asked for this sentence of the document. */
    static void sentence(String words) {
        sentences++;
        sentence = words;
    }

    static void is(String call, long got, long want) {
        asked++;
        if (got != want) {
            wrong++;
            System.out.println(call + " answered " + got + ", due is " + want);
            if (!sentence.isEmpty()) {
                System.out.println("    of: " + sentence);
            }
        }
    }

    /** A call with one number takes all from least to most, and refuses the next ones on either side as BAD. */
    static void bounds(String call, int least, int most, IntUnaryOperator of) {
        for (int v : new int[] {least, Math.min(least + 1, most), least + (most - least) / 2, Math.max(most - 1, least),
            most}) {
            is(call + " takes " + v, of.applyAsInt(v) == BAD ? 0 : 1, 1);
        }
        for (int v : new int[] {least - 1, most + 1, Integer.MIN_VALUE, Integer.MAX_VALUE, -1 - most}) {
            is(call + " refuses " + v, of.applyAsInt(v), BAD);
        }
    }

    /** Each of the answers is due to be one and the same. */
    static void all(String calls, long want, long... got) {
        for (int i = 0; i < got.length; i++) {
            is(calls + " [" + i + "]", got[i], want);
        }
    }

    /** The answers stand in a row that is due. */
    static void row(String calls, int[] got, int... want) {
        is(calls + ": how many", got.length, want.length);
        for (int i = 0; i < Math.min(got.length, want.length); i++) {
            is(calls + " [" + i + "]", got[i], want[i]);
        }
    }

    static int[] ints(int... v) {
        return v;
    }

    /** The tape has these signs and no others. */
    static void tape(LongTrail x, String signs) {
        x.trim(0);
        for (int at = 0; at < signs.length(); at += 12) {
            x.feed(four(signs, at), four(signs, at + 4), four(signs, at + 8));
        }
        is("trim to " + signs, x.trim(signs.length()), signs.length());
    }

    /** A text of a land from a day on, by its signs. */
    static int text(LongTrail x, int land, int day, String signs) {
        tape(x, signs);
        return x.text(land, day);
    }

    /** Days go by, 60 at most at once, until a day is open. */
    static void runTo(LongTrail x, int day) {
        for (int left = day - x.count(16); left > 0; left -= 60) {
            x.run(Math.min(60, left));
        }
        is("the DAY", x.count(16), day);
    }

    /** Numbers of a walker from what a to what b. */
    static int[] walker(LongTrail x, int walker, int a, int b) {
        int[] got = new int[b - a + 1];
        for (int what = a; what <= b; what++) {
            got[what - a] = x.is(walker, what);
        }
        return got;
    }

    static void end(String name) {
        String of = sentences == 0 ? "" : " of " + sentences + " sentences";
        System.out.println(name + ": " + asked + " answers" + of + " asked, " + wrong + " wrong");
        if (wrong != 0) {
            System.exit(1);
        }
    }

    private static int four(String signs, int at) {
        int v = 0;
        for (int i = at; i < at + 4; i++) {
            v = v << 8 | (i < signs.length() ? signs.charAt(i) & 255 : 0);
        }
        return v;
    }
}
