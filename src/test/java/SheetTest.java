/** Promises 38 to 41: sheets. */
public final class SheetTest {
    public static void main(String[] args) {
        sheet();
        mark();
        sum();
        copy();
        copyIndexes();
        Due.end("SheetTest");
    }

    private static void sheet() {
        LongTrail x = new LongTrail();
        Due.all("sheet: BAD", Due.BAD, x.sheet(-1, 0, 1), x.sheet(4, 0, 1), x.sheet(0, -2, 1), x.sheet(0, 3, 1),
                x.sheet(0, 0, 25), x.sheet(4, -1, 0), x.sheet(0, 3, -1));
        Due.all("sheet: SIZE", Due.SIZE, x.sheet(0, 0, -1), x.sheet(3, 2, Integer.MIN_VALUE));
        Due.is("still MISSING", x.sum(0, 1), Due.NOTHING);
        Due.row("sheet", Due.ints(x.sheet(0, 0, 0), x.sheet(1, 1, 24), x.sheet(2, 2, 1)), 0, 24, 1);
        x.mark(1, 23, 8);
        Due.is("refused: as it was", x.sheet(1, 0, 25), Due.BAD);
        Due.is("refused: as it was", x.sheet(1, 0, -1), Due.SIZE);
        Due.is("sum", x.sum(1, 1), 8);
        Due.is("all 0 again", x.sheet(1, 1, 24), 24);
        Due.is("sum", x.sum(1, 1), 0);
        Due.row("MISSING, n any", Due.ints(x.sheet(1, -1, 25), x.sheet(1, -1, -7), x.sheet(3, -1, Integer.MAX_VALUE)),
                0, 0, 0);
        Due.is("MISSING", x.mark(1, 0, 1), Due.NOTHING);
    }

    private static void mark() {
        LongTrail x = new LongTrail();
        Due.all("mark: BAD", Due.BAD, x.mark(-1, 0, 0), x.mark(4, 0, 0));
        Due.is("mark: NOTHING stands ahead of INDEX", x.mark(0, -1, 0), Due.NOTHING);
        x.sheet(0, 0, 2);
        x.sheet(1, 1, 2);
        x.sheet(2, 2, 2);
        x.sheet(3, 2, 0);
        for (int sheet = 0; sheet < 3; sheet++) {
            Due.all("mark: INDEX", Due.INDEX, x.mark(sheet, -1, 0), x.mark(sheet, 2, 0), x.mark(sheet, Integer.MAX_VALUE, 0));
        }
        Due.is("mark: INDEX", x.mark(3, 0, 0), Due.INDEX);
        Due.row("bytes", Due.ints(x.mark(0, 1, 128), x.mark(0, 1, 255), x.mark(0, 1, -129), x.mark(0, 1, 256),
                x.mark(0, 1, 0)), 0, -128, -1, 127, 0);
        Due.row("ints", Due.ints(x.mark(1, 1, 1 << 31), x.mark(1, 1, 255), x.mark(1, 1, 0)), 0, 1 << 31, 255);
        Due.row("longs", Due.ints(x.mark(2, 1, 1 << 31), x.mark(2, 1, -1), x.mark(2, 1, 0)), 0, 1 << 31, -1);
    }

    private static void sum() {
        LongTrail x = new LongTrail();
        Due.all("sum: BAD", Due.BAD, x.sum(-1, 0), x.sum(4, 0));
        Due.is("sum: NOTHING", x.sum(3, 0), Due.NOTHING);
        x.sheet(0, 0, 3);
        x.mark(0, 0, 127);
        x.mark(0, 1, 127);
        x.mark(0, 2, -1);
        Due.is("bytes do not wrap", x.sum(0, 3), 759);
        x.sheet(1, 1, 3);
        for (int i = 0; i < 3; i++) {
            x.mark(1, i, 2000000000);
        }
        Due.is("ints", x.sum(1, 7), (int) (6000000000L * 7));
        Due.is("times 0", x.sum(1, 0), 0);
        x.sheet(2, 2, 24);
        for (int i = 0; i < 24; i++) {
            x.mark(2, i, Integer.MIN_VALUE + i);
        }
        long all = 24L * Integer.MIN_VALUE + 23 * 12;
        Due.is("longs", x.sum(2, Integer.MIN_VALUE), (int) (all * Integer.MIN_VALUE));
        Due.is("longs", x.sum(2, -3), (int) (all * -3));
        x.sheet(3, 0, 0);
        Due.is("no places", x.sum(3, 5), 0);
    }

    private static void copy() {
        LongTrail x = new LongTrail();
        x.sheet(0, 1, 4);
        x.sheet(1, 1, 6);
        x.sheet(2, 2, 4);
        for (int i = 0; i < 4; i++) {
            x.mark(0, i, 10 + i);
        }
        Due.is("copy", x.copy(0, 1, 1, 3, 3), 3);
        row(x, "copy", 1, 6, 0, 0, 0, 11, 12, 13);
        x = new LongTrail();
        x.sheet(0, 0, 4);
        for (int i = 0; i < 4; i++) {
            x.mark(0, i, i + 1);
        }
        Due.is("copy: up in one", x.copy(0, 0, 0, 1, 3), 3);
        row(x, "as they were", 0, 4, 1, 1, 2, 3);
        x = new LongTrail();
        x.sheet(0, 2, 4);
        for (int i = 0; i < 4; i++) {
            x.mark(0, i, i + 1);
        }
        Due.is("copy: down in one", x.copy(0, 1, 0, 0, 3), 3);
        row(x, "as they were", 0, 4, 2, 3, 4, 4);
    }

    private static void copyIndexes() {
        LongTrail x = new LongTrail();
        x.sheet(0, 1, 4);
        x.sheet(1, 1, 2);
        x.sheet(2, 2, 4);
        Due.all("copy: BAD", Due.BAD, x.copy(-1, 0, 0, 0, 0), x.copy(4, 0, 0, 0, 0), x.copy(0, 0, -1, 0, 0),
                x.copy(0, 0, 4, 0, 0), x.copy(3, 0, 4, 0, -1));
        Due.all("copy: NOTHING", Due.NOTHING, x.copy(3, 0, 0, 0, 0), x.copy(0, 0, 3, 0, 0), x.copy(0, -1, 3, 0, 0));
        Due.all("copy: KIND", Due.KIND, x.copy(0, 0, 2, 0, 0), x.copy(2, 0, 0, 9, -1));
        Due.all("copy: INDEX", Due.INDEX, x.copy(0, 0, 1, 0, -1), x.copy(0, -1, 1, 0, 1), x.copy(0, 0, 1, -1, 1),
                x.copy(0, 3, 1, 0, 2), x.copy(0, 0, 1, 1, 2), x.copy(0, 5, 1, 0, 0), x.copy(0, 0, 1, 3, 0),
                x.copy(0, -1, 1, 0, 0), x.copy(0, Integer.MAX_VALUE, 1, 0, Integer.MAX_VALUE),
                x.copy(0, 1, 1, 1, Integer.MAX_VALUE), x.copy(0, Integer.MIN_VALUE, 1, 0, Integer.MIN_VALUE));
        Due.all("copy: none, behind the last one", 0, x.copy(0, 4, 1, 2, 0), x.copy(0, 4, 0, 4, 0));
        Due.is("copy: all", x.copy(1, 0, 0, 2, 2), 2);
    }

    /** The places of a sheet are due to hold these; they become 0. */
    private static void row(LongTrail x, String name, int sheet, int many, int... want) {
        int[] got = new int[many];
        for (int i = 0; i < many; i++) {
            got[i] = x.mark(sheet, i, 0);
        }
        Due.row(name, got, want);
    }
}
