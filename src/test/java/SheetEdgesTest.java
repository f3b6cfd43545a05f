/**
 * The boundary cases of the SHEETS in "5 SHEETS" and of promises 38 to 41. Each method tests one sentence of the
 * document, which it names.
 */
public final class SheetEdgesTest {
    private static final int[] SIZES = {0, 1, 2, 23, 24};

    public static void main(String[] args) {
        sheetsThereAre();
        missingAtFirst();
        sorts();
        places();
        sizeBelowNothing();
        badAheadOfSize();
        missingAgain();
        allNothing();
        markBounds();
        markRefused();
        markBytes();
        markIntsAndLongs();
        whatItWas();
        sumRefused();
        sumOfNone();
        sumAsALong();
        sumTimes();
        copyBounds();
        copyRefused();
        copyIndex();
        copyManyBelowNothing();
        copyNone();
        copyAsTheyWere();
        copyToAnother();
        Due.end("SheetEdgesTest");
    }

    private static LongTrail sheet(int sort, int n) {
        LongTrail x = new LongTrail();
        Due.is("sheet", x.sheet(0, sort, n), n);
        return x;
    }

    private static void sheetsThereAre() {
        Due.sentence("SHEETS 0 .. 3");
        Due.bounds("sheet", 0, 3, v -> new LongTrail().sheet(v, 1, 5));
        Due.bounds("sheet, MISSING", 0, 3, v -> new LongTrail().sheet(v, -1, 5));
        Due.bounds("mark", 0, 3, v -> new LongTrail().mark(v, 0, 0));
        Due.bounds("sum", 0, 3, v -> new LongTrail().sum(v, 0));
        Due.bounds("copy from", 0, 3, v -> new LongTrail().copy(v, 0, 0, 0, 0));
        Due.bounds("copy to", 0, 3, v -> new LongTrail().copy(0, 0, v, 0, 0));
        LongTrail x = new LongTrail();
        for (int i = 0; i < 4; i++) {
            x.sheet(i, 1, 1);
            x.mark(i, 0, 10 + i);
        }
        Due.row("each by itself", Due.ints(x.sum(0, 1), x.sum(1, 1), x.sum(2, 1), x.sum(3, 1)), 10, 11, 12, 13);
    }

    private static void missingAtFirst() {
        Due.sentence("or MISSING (at first)");
        for (int i = 0; i < 4; i++) {
            LongTrail x = new LongTrail();
            Due.all("NOTHING", Due.NOTHING, x.mark(i, 0, 0), x.sum(i, 0), x.copy(i, 0, i, 0, 0));
        }
    }

    private static void sorts() {
        Due.sentence("rows of bytes (sort 0), ints (1) or longs (2) .. (sort -1: MISSING, ..)");
        Due.bounds("sort", -1, 2, v -> new LongTrail().sheet(0, v, 5));
        int[] due = {-1, 255, 255};
        for (int sort = 0; sort < 3; sort++) {
            LongTrail x = sheet(sort, 1);
            x.mark(0, 0, 255);
            Due.is("255 in sort " + sort, x.mark(0, 0, 0), due[sort]);
        }
    }

    private static void places() {
        Due.sentence("with 0 to 24 places .. BAD: sheet, sort, n above 24");
        for (int sort = 0; sort < 3; sort++) {
            for (int n : SIZES) {
                LongTrail x = sheet(sort, n);
                Due.is("the last place", x.mark(0, n - 1, 5), n == 0 ? Due.INDEX : 0);
                Due.is("none behind it", x.mark(0, n, 5), Due.INDEX);
            }
            Due.all("above 24", Due.BAD, new LongTrail().sheet(0, sort, 25), new LongTrail().sheet(0, sort, Integer.MAX_VALUE));
        }
    }

    private static void sizeBelowNothing() {
        Due.sentence("SIZE: a number of places is below 0");
        for (int sort = 0; sort < 3; sort++) {
            LongTrail x = sheet(sort, 2);
            x.mark(0, 1, 7);
            Due.all("SIZE", Due.SIZE, x.sheet(0, sort, -1), x.sheet(0, sort, -24), x.sheet(0, sort, Integer.MIN_VALUE));
            Due.row("as it was", Due.ints(x.sum(0, 1), x.mark(0, 1, 0), x.mark(0, 2, 0)), 7, 7, Due.INDEX);
            Due.is("0 is none", x.sheet(0, sort, 0), 0);
        }
    }

    private static void badAheadOfSize() {
        Due.sentence("(sheet) BAD: sheet, sort, n above 24; SIZE.");
        LongTrail x = new LongTrail();
        Due.all("BAD stands first", Due.BAD, x.sheet(4, 0, -1), x.sheet(-1, 0, -1), x.sheet(0, 3, -1), x.sheet(0, -2, -1));
        Due.is("SIZE", x.sheet(0, 0, -1), Due.SIZE);
    }

    private static void missingAgain() {
        Due.sentence("(sort -1: MISSING, n any): n (0)");
        for (int n : new int[] {0, 1, 24, 25, -1, Integer.MIN_VALUE, Integer.MAX_VALUE}) {
            LongTrail x = sheet(1, 2);
            Due.row("MISSING, " + n, Due.ints(x.sheet(0, -1, n), x.sum(0, 1), x.mark(0, 0, 1)), 0, Due.NOTHING, Due.NOTHING);
            Due.is("MISSING again", x.sheet(0, -1, n), 0);
        }
        Due.all("no such SHEET", Due.BAD, new LongTrail().sheet(4, -1, 0), new LongTrail().sheet(-1, -1, 0));
    }

    private static void allNothing() {
        Due.sentence("A SHEET becomes a row of n places of a sort, all 0");
        LongTrail x = sheet(1, 24);
        for (int i = 0; i < 24; i++) {
            x.mark(0, i, 1000 + i);
        }
        for (int sort = 0; sort < 3; sort++) {
            x.sheet(0, sort, 24);
            for (int i = 0; i < 24; i++) {
                Due.is("place " + i, x.mark(0, i, 99), 0);
            }
        }
        x.sheet(0, 2, 3);
        x.sheet(0, 2, 24);
        Due.row("places that were gone", Due.ints(x.sum(0, 1), x.mark(0, 23, 0)), 0, 0);
    }

    private static void markBounds() {
        Due.sentence("INDEX: there is no such place");
        for (int sort = 0; sort < 3; sort++) {
            for (int n : SIZES) {
                LongTrail x = sheet(sort, n);
                Due.all("INDEX", Due.INDEX, x.mark(0, -1, 9), x.mark(0, n, 9), x.mark(0, 24, 9), x.mark(0, Integer.MAX_VALUE, 9),
                        x.mark(0, Integer.MIN_VALUE, 9));
                for (int i = 0; i < n; i++) {
                    Due.is("place " + i, x.mark(0, i, 1), 0);
                }
                Due.is("together", x.sum(0, 1), n);
            }
        }
    }

    private static void markRefused() {
        Due.sentence("(mark) BAD; NOTHING; INDEX.");
        LongTrail x = new LongTrail();
        Due.all("NOTHING stands ahead of INDEX", Due.NOTHING, x.mark(0, -1, 0), x.mark(3, 24, 0));
        Due.all("BAD stands first", Due.BAD, x.mark(-1, -1, 0), x.mark(4, 24, 0));
    }

    private static void markBytes() {
        Due.sentence("A place of a SHEET becomes v (of bytes its lowest 8 bits, with their sign)");
        int[] v = {0, 1, 127, 128, 255, 256, 257, -1, -128, -129, -256, Integer.MAX_VALUE, Integer.MIN_VALUE, 0x1234567f};
        LongTrail x = sheet(0, 1);
        for (int i = 0; i < v.length; i++) {
            x.mark(0, 0, v[i]);
            Due.is("together of " + v[i], x.sum(0, 1), (byte) v[i]);
            Due.is("the byte of " + v[i], x.mark(0, 0, 0), (byte) v[i]);
        }
    }

    private static void markIntsAndLongs() {
        Due.sentence("A place of a SHEET becomes v .. : what it was, its lowest 32 bits as an int");
        for (int sort = 1; sort < 3; sort++) {
            LongTrail x = sheet(sort, 1);
            for (int v : new int[] {0, 1, 127, 128, 65536, -1, Integer.MAX_VALUE, Integer.MIN_VALUE}) {
                x.mark(0, 0, v);
                Due.is("together of " + v, x.sum(0, 1), v);
                Due.is("what it was", x.mark(0, 0, 0), v);
            }
        }
    }

    private static void whatItWas() {
        Due.sentence("(mark) what it was");
        for (int sort = 0; sort < 3; sort++) {
            LongTrail x = sheet(sort, 2);
            Due.row("in turn", Due.ints(x.mark(0, 0, 5), x.mark(0, 0, 6), x.mark(0, 1, 7), x.mark(0, 0, 8), x.mark(0, 1, 9)),
                    0, 5, 0, 6, 7);
        }
    }

    private static void sumRefused() {
        Due.sentence("(sum) BAD; NOTHING.");
        LongTrail x = new LongTrail();
        Due.all("BAD", Due.BAD, x.sum(-1, 1), x.sum(4, 1), x.sum(Integer.MIN_VALUE, 1), x.sum(Integer.MAX_VALUE, 0));
        Due.all("NOTHING", Due.NOTHING, x.sum(0, 1), x.sum(3, 0));
    }

    private static void sumOfNone() {
        Due.sentence("All places of a SHEET together (none)");
        for (int sort = 0; sort < 3; sort++) {
            LongTrail x = sheet(sort, 0);
            Due.row("0", Due.ints(x.sum(0, 1), x.sum(0, Integer.MIN_VALUE)), 0, 0);
        }
    }

    private static void sumAsALong() {
        Due.sentence("All places of a SHEET together, times v, as a long (wrapping): its lowest 32 bits as an int.");
        LongTrail x = sheet(0, 24);
        for (int i = 0; i < 24; i++) {
            x.mark(0, i, 127);
        }
        Due.row("bytes", Due.ints(x.sum(0, 1), x.sum(0, -2)), 24 * 127, -2 * 24 * 127);
        for (int sort = 1; sort < 3; sort++) {
            LongTrail y = sheet(sort, 24);
            for (int i = 0; i < 24; i++) {
                y.mark(0, i, Integer.MAX_VALUE - i);
            }
            long all = 24L * Integer.MAX_VALUE - 23 * 12;
            Due.row("above an int", Due.ints(y.sum(0, 1), y.sum(0, 3), y.sum(0, Integer.MIN_VALUE), y.sum(0, Integer.MAX_VALUE)),
                    (int) all, (int) (all * 3), (int) (all * Integer.MIN_VALUE), (int) (all * Integer.MAX_VALUE));
        }
    }

    private static void sumTimes() {
        Due.sentence("(sum) times v");
        LongTrail x = sheet(1, 2);
        x.mark(0, 0, 3);
        x.mark(0, 1, 4);
        Due.row("times 0, 1, -1, 1000", Due.ints(x.sum(0, 0), x.sum(0, 1), x.sum(0, -1), x.sum(0, 1000)), 0, 7, -7, 7000);
        Due.row("no place changes", Due.ints(x.mark(0, 0, 0), x.mark(0, 1, 0)), 3, 4);
    }

    private static void copyBounds() {
        Due.sentence("(From a SHEET, its place, to a SHEET, its place.) So many places of a SHEET come to another one (or the "
                + "same)");
        for (int n : new int[] {1, 2, 24}) {
            for (int m : new int[] {1, 2, 24}) {
                LongTrail x = new LongTrail();
                x.sheet(1, 0, n);
                x.sheet(2, 0, m);
                int most = Math.min(n, m);
                Due.row("all of them, one too many", Due.ints(x.copy(1, 0, 2, 0, most), x.copy(1, 0, 2, 0, most + 1)),
                        most, Due.INDEX);
                Due.row("the last one", Due.ints(x.copy(1, n - 1, 2, m - 1, 1), x.copy(1, n - 1, 2, m - 1, 2)), 1, Due.INDEX);
            }
        }
    }

    private static void copyRefused() {
        Due.sentence("(copy) BAD; NOTHING; KIND: they are not of one sort; INDEX");
        LongTrail x = new LongTrail();
        for (int sort = 0; sort < 3; sort++) {
            x.sheet(sort, sort, 2);
        }
        for (int from = 0; from < 4; from++) {
            for (int to = 0; to < 4; to++) {
                int due = from == 3 || to == 3 ? Due.NOTHING : from != to ? Due.KIND : Due.INDEX;
                Due.is("from " + from + " to " + to + " with no such place", x.copy(from, -1, to, 9, -1), due);
                Due.is("BAD stands first", x.copy(from + 4, -1, to, 9, -1), Due.BAD);
                Due.is("BAD stands first", x.copy(from, -1, -1 - to, 9, -1), Due.BAD);
                Due.is("of none", x.copy(from, 0, to, 0, 0), due == Due.INDEX ? 0 : due);
            }
        }
    }

    private static void copyIndex() {
        Due.sentence("(copy) INDEX");
        LongTrail x = new LongTrail();
        x.sheet(0, 1, 4);
        x.sheet(1, 1, 3);
        for (int place = -2; place <= 6; place++) {
            for (int at = -2; at <= 5; at++) {
                for (int many = -2; many <= 6; many++) {
                    boolean fits = many >= 0 && place >= 0 && at >= 0 && place + many <= 4 && at + many <= 3;
                    Due.is("copy(0, " + place + ", 1, " + at + ", " + many + ")", fresh().copy(0, place, 1, at, many),
                            fits ? many : Due.INDEX);
                }
            }
        }
        Due.all("numbers that wrap", Due.INDEX, x.copy(0, 1, 1, 0, Integer.MAX_VALUE), x.copy(0, Integer.MAX_VALUE, 1, 0, 1),
                x.copy(0, 0, 1, Integer.MAX_VALUE, 1), x.copy(0, Integer.MAX_VALUE, 1, 0, Integer.MAX_VALUE),
                x.copy(0, Integer.MIN_VALUE, 1, 0, 1), x.copy(0, 0, 1, Integer.MIN_VALUE, 0));
    }

    private static LongTrail fresh() {
        LongTrail x = new LongTrail();
        x.sheet(0, 1, 4);
        x.sheet(1, 1, 3);
        return x;
    }

    private static void copyManyBelowNothing() {
        Due.sentence("(copy) INDEX (many below 0, too; ..)");
        LongTrail x = fresh();
        Due.all("INDEX", Due.INDEX, x.copy(0, 0, 1, 0, -1), x.copy(0, 4, 1, 3, -1), x.copy(0, 2, 0, 2, -2),
                x.copy(0, 0, 1, 0, Integer.MIN_VALUE));
    }

    private static void copyNone() {
        Due.sentence("(copy) INDEX (..; many 0: not at the place behind the last one)");
        LongTrail x = fresh();
        x.sheet(2, 1, 0);
        Due.all("behind the last one", 0, x.copy(0, 4, 1, 3, 0), x.copy(0, 4, 1, 0, 0), x.copy(0, 0, 1, 3, 0),
                x.copy(2, 0, 2, 0, 0), x.copy(2, 0, 1, 3, 0));
        Due.all("farther on", Due.INDEX, x.copy(0, 5, 1, 0, 0), x.copy(0, 0, 1, 4, 0), x.copy(2, 1, 2, 0, 0),
                x.copy(0, -1, 1, 0, 0), x.copy(0, 0, 1, -1, 0));
        Due.all("one place behind the last one", Due.INDEX, x.copy(0, 4, 1, 0, 1), x.copy(0, 0, 1, 3, 1), x.copy(2, 0, 2, 0, 1));
    }

    private static void copyAsTheyWere() {
        Due.sentence("So many places of a SHEET come to another one (or the same), as they were: many.");
        for (int sort = 0; sort < 3; sort++) {
            for (int place = 0; place <= 5; place++) {
                for (int at = 0; at <= 5; at++) {
                    for (int many = 0; many <= 5 - Math.max(place, at); many++) {
                        LongTrail x = sheet(sort, 5);
                        int[] due = new int[5];
                        for (int i = 0; i < 5; i++) {
                            x.mark(0, i, 10 + i);
                            due[i] = i >= at && i < at + many ? 10 + place + i - at : 10 + i;
                        }
                        Due.is("copy", x.copy(0, place, 0, at, many), many);
                        for (int i = 0; i < 5; i++) {
                            Due.is("place " + i + " of copy(" + place + ", " + at + ", " + many + ")", x.mark(0, i, 0), due[i]);
                        }
                    }
                }
            }
        }
    }

    private static void copyToAnother() {
        Due.sentence("So many places of a SHEET come to another one");
        LongTrail x = new LongTrail();
        x.sheet(0, 2, 3);
        x.sheet(1, 2, 4);
        for (int i = 0; i < 3; i++) {
            x.mark(0, i, 10 + i);
        }
        for (int i = 0; i < 4; i++) {
            x.mark(1, i, 20 + i);
        }
        Due.is("copy", x.copy(0, 1, 1, 2, 2), 2);
        Due.row("to", Due.ints(x.mark(1, 0, 0), x.mark(1, 1, 0), x.mark(1, 2, 0), x.mark(1, 3, 0)), 20, 21, 11, 12);
        Due.row("from, by itself", Due.ints(x.mark(0, 0, 0), x.mark(0, 1, 0), x.mark(0, 2, 0)), 10, 11, 12);
    }
}
