/** Promises 26 to 31: sheets of numbers. */
public final class SheetsTest {
  private static final Due due = new Due();
  private static final long MAX = Long.MAX_VALUE;
  private static final long MIN = Long.MIN_VALUE;

  public static void main(String[] args) {
    sheet();
    put();
    putErrors();
    bits();
    cast();
    restOfPoints();
    restOfWholes();
    restErrors();
    lays();
    laysErrors();
    due.end();
  }

  // Promise 26
  private static void sheet() {
    EngravedLines x = new EngravedLines();
    for (int sheet = 0; sheet < 4; sheet++) {
      for (int sort = 0; sort < 4; sort++) {
        due.is("sheet(" + sheet + ", " + sort + ", 40)", x.sheet(sheet, sort, 40), 1);
        due.is("number 0", x.bits(sheet, 0), 0);
        due.is("number 39", x.bits(sheet, 39), 0);
        due.is("number 40", x.bits(sheet, 40), Due.LONG_LOST);
        x.put(sheet, 39, 5, 0);
        x.put(sheet, 0, 5, 0);
      }
    }
    due.is("sheet(1, 3, 0)", x.sheet(1, 3, 0), 1);
    due.is("it has no number", x.bits(1, 0), Due.LONG_LOST);
    due.is("the one ahead keeps its own", x.bits(0, 39), 5);
    due.is("the one behind keeps its own", x.bits(2, 0), 5);
    due.is("sheet(2, -1, 7)", x.sheet(2, -1, 7), 1);
    due.is("it is missing", x.bits(2, 0), Due.LONG_LOST);
    due.is("sheet(2, -1, -7)", x.sheet(2, -1, -7), 1);
    due.is("sheet(2, -1, MAX)", x.sheet(2, -1, Integer.MAX_VALUE), 1);
    due.is("sheet(-1, 0, 1)", x.sheet(-1, 0, 1), Due.BEYOND);
    due.is("sheet(4, -1, 1)", x.sheet(4, -1, 1), Due.BEYOND);
    due.is("sheet(0, -2, 1)", x.sheet(0, -2, 1), Due.BEYOND);
    due.is("sheet(0, 4, -1)", x.sheet(0, 4, -1), Due.BEYOND);
    due.is("sheet(0, 0, -1)", x.sheet(0, 0, -1), Due.STATE);
    due.is("sheet(0, 0, MIN)", x.sheet(0, 0, Integer.MIN_VALUE), Due.STATE);
    due.is("sheet(0, 0, 41)", x.sheet(0, 0, 41), Due.BEYOND);
    due.is("sheet(0, 0, MAX)", x.sheet(0, 0, Integer.MAX_VALUE), Due.BEYOND);
    due.is("nothing has changed", x.bits(0, 39), 5);
    due.is("told(3)", x.told(3), 2);
    due.is("told(1)", x.told(1), 6);
  }

  private static EngravedLines fourSorts() {
    EngravedLines x = new EngravedLines();
    for (int sort = 0; sort < 4; sort++) {
      x.sheet(sort, sort, 5);
    }
    return x;
  }

  // Promise 27
  private static void put() {
    EngravedLines x = fourSorts();
    long[] values = {0, 1, -1, 7, -3, 10, 100, 16777215, 16777216, 16777217, 16777219, -16777217,
        33554433, 9007199254740991L, 9007199254740993L, 9007199254740995L, -9007199254740993L,
        70000, -70000, 4294967303L, 32768, 2147483648L, -2147483649L, MAX, MIN, MAX - 1, MIN + 1,
        9223371761976868863L, 9223371761976868864L, 123456789012345678L};
    for (long v : values) {
      for (int k = 0; k <= 20; k += 4) {
        String call = "put(.., " + v + ", " + k + ")";
        long power = 1L << k;
        for (int sort = 0; sort < 4; sort++) {
          due.is(call, x.put(sort, 1, v, k), 1);
        }
        due.is(call + " of a FLOAT", x.bits(0, 1), Float.floatToIntBits((float) v / power));
        due.is(call + " of 64 bits", x.bits(1, 1), Double.doubleToLongBits((double) v / power));
        due.is(call + " of 16 bits", x.bits(2, 1), (short) v);
        due.is(call + " of 32 bits", x.bits(3, 1), (int) v);
      }
      if (x.count(0) != 0) {
        break;
      }
      x = fourSorts();
    }
    x.put(0, 1, 9, 0);
    due.is("its neighbours stay", x.bits(0, 0) | x.bits(0, 2), 0);
  }

  private static void putErrors() {
    EngravedLines x = fourSorts();
    due.is("put(-1, ..)", x.put(-1, 0, 1, 0), Due.BEYOND);
    due.is("put(4, ..)", x.put(4, 0, 1, 0), Due.BEYOND);
    due.is("k -1", x.put(0, 0, 1, -1), Due.BEYOND);
    due.is("k 21", x.put(1, 9, 1, 21), Due.BEYOND);
    due.is("k MAX", x.put(1, 0, 1, Integer.MAX_VALUE), Due.BEYOND);
    due.is("number -1", x.put(0, -1, 1, 0), Due.LOST);
    due.is("number 5", x.put(0, 5, 1, 0), Due.LOST);
    due.is("number MAX", x.put(0, Integer.MAX_VALUE, 1, 0), Due.LOST);
    due.is("number MIN", x.put(0, Integer.MIN_VALUE, 1, 0), Due.LOST);
    x.sheet(3, -1, 0);
    due.is("a missing SHEET", x.put(3, 0, 1, 0), Due.LOST);
    due.is("a missing SHEET, k 21", x.put(3, 0, 1, 21), Due.BEYOND);
    due.is("told(7)", x.told(7), 5);
    due.is("nothing has changed", x.bits(0, 0) | x.bits(0, 4), 0);
  }

  // Promise 28
  private static void bits() {
    EngravedLines x = fourSorts();
    due.is("bits(-1, 0)", x.bits(-1, 0), Due.LONG_BEYOND);
    due.is("bits(4, 0)", x.bits(4, 0), Due.LONG_BEYOND);
    due.is("bits(0, -1)", x.bits(0, -1), Due.LONG_LOST);
    due.is("bits(3, 5)", x.bits(3, 5), Due.LONG_LOST);
    x.sheet(0, -1, 0);
    due.is("bits of a missing one", x.bits(0, 0), Due.LONG_LOST);
    due.is("told(1)", x.told(1), 2);
    due.is("told(7)", x.told(7), 3);
    // BITS may be as an ERROR is, and none is counted then.
    x.put(3, 0, Due.BEYOND, 0);
    due.is("a number like BEYOND", x.bits(3, 0), Due.BEYOND);
    due.is("a number like BEYOND, cast", x.cast(3, 0), Due.BEYOND);
    due.is("told(1)", x.told(1), 2);
  }

  private static void isCast(long v, int k, int ofFloat, int ofDouble) {
    EngravedLines x = fourSorts();
    x.put(0, 0, v, k);
    x.put(1, 0, v, k);
    due.is("cast of the FLOAT " + v + " by 2 to the " + k, x.cast(0, 0), ofFloat);
    due.is("cast of " + v + " by 2 to the " + k, x.cast(1, 0), ofDouble);
  }

  // Promise 29
  private static void cast() {
    isCast(0, 0, 0, 0);
    isCast(7, 1, 3, 3);
    isCast(-7, 1, -3, -3);
    isCast(-3, 2, 0, 0);
    isCast(3, 0, 3, 3);
    isCast(-1, 20, 0, 0);
    isCast(MAX, 0, Integer.MAX_VALUE, Integer.MAX_VALUE);
    isCast(MIN, 0, Integer.MIN_VALUE, Integer.MIN_VALUE);
    isCast(Integer.MAX_VALUE, 0, Integer.MAX_VALUE, Integer.MAX_VALUE);
    isCast(Integer.MAX_VALUE - 1, 0, Integer.MAX_VALUE, Integer.MAX_VALUE - 1);
    isCast(Integer.MIN_VALUE, 0, Integer.MIN_VALUE, Integer.MIN_VALUE);
    isCast(2147483648L, 0, Integer.MAX_VALUE, Integer.MAX_VALUE);
    isCast(4294967295L, 1, Integer.MAX_VALUE, Integer.MAX_VALUE);
    isCast(16777217, 0, 16777216, 16777217);
    isCast(1000001, 3, 125000, 125000);
    EngravedLines x = fourSorts();
    x.put(2, 0, 40000, 7);
    x.put(3, 0, 3000000000L, 7);
    due.is("cast of 16 bits", x.cast(2, 0), 40000 - 65536);
    due.is("cast of 32 bits", x.cast(3, 0), (int) 3000000000L);
    due.is("cast(-1, 0)", x.cast(-1, 0), Due.BEYOND);
    due.is("cast(4, 0)", x.cast(4, 0), Due.BEYOND);
    due.is("cast(0, 5)", x.cast(0, 5), Due.LOST);
    due.is("cast(0, -1)", x.cast(0, -1), Due.LOST);
    x.sheet(0, -1, 5);
    due.is("cast of a missing one", x.cast(0, 0), Due.LOST);
  }

  // Promise 30
  private static void restOfPoints() {
    long[][] pairs = {{7, 1, 3, 2}, {-7, 1, 3, 2}, {7, 1, -3, 2}, {-7, 1, -3, 2}, {3, 0, 1, 0},
        {-3, 0, 1, 0}, {1, 20, 3, 0}, {MAX, 0, 3, 20}, {MIN, 0, 7, 20}, {MAX, 0, 10, 0},
        {MIN, 0, 1000003, 3}, {0, 0, 5, 0}, {5, 0, 5, 0}, {-5, 0, 5, 0}, {16777217, 0, 3, 7},
        {123456789012345678L, 0, 98765, 11}, {1, 0, MAX, 0}, {9007199254740993L, 2, 7, 1}};
    for (long[] p : pairs) {
      EngravedLines x = fourSorts();
      for (int sort = 0; sort < 2; sort++) {
        x.put(sort, 0, p[0], (int) p[1]);
        x.put(sort, 1, p[2], (int) p[3]);
        due.is("rest", x.rest(sort, 0, 1), 1);
      }
      String of = p[0] + " by 2 to the " + p[1] + " by " + p[2] + " by 2 to the " + p[3];
      float f = (float) p[0] / (1 << p[1]) % ((float) p[2] / (1 << p[3]));
      double d = (double) p[0] / (1 << p[1]) % ((double) p[2] / (1 << p[3]));
      due.is("FLOATS: " + of, x.bits(0, 0), Float.floatToIntBits(f));
      due.is("64 bits: " + of, x.bits(1, 0), Double.doubleToLongBits(d));
      float by = (float) p[2] / (1 << p[3]);
      due.is("number j stays", x.bits(0, 1), Float.floatToIntBits(by));
    }
    EngravedLines x = fourSorts();
    for (int sort = 0; sort < 2; sort++) {
      x.put(sort, 0, -6, 0);
      x.put(sort, 1, 3, 0);
      x.rest(sort, 0, 1);
      due.is("0 below 0, cast", x.cast(sort, 0), 0);
      due.is("0 below 0 is 0", x.rest(sort, 1, 0), Due.NOUGHT);
      due.is("rest of 0 below 0", x.rest(sort, 0, 1), 1);
    }
    due.is("-0 of 32 bits", x.bits(0, 0), Float.floatToIntBits(-0f));
    due.is("-0 of 64 bits", x.bits(1, 0), Double.doubleToLongBits(-0d));
  }

  private static void restOfWholes() {
    long[][] pairs = {{7, 3, 1}, {-7, 3, -1}, {7, -3, 1}, {-7, -3, -1}, {6, 3, 0}, {-6, 3, 0},
        {2, 5, 2}, {-32768, -1, 0}, {32767, -32768, 32767}};
    for (long[] p : pairs) {
      EngravedLines x = fourSorts();
      for (int sort = 2; sort < 4; sort++) {
        x.put(sort, 4, p[0], 0);
        x.put(sort, 3, p[1], 0);
        due.is("rest", x.rest(sort, 4, 3), 1);
        due.is("rest of " + p[0] + " by " + p[1], x.bits(sort, 4), p[2]);
        due.is("number j stays", x.bits(sort, 3), p[1]);
      }
    }
    EngravedLines x = fourSorts();
    x.put(3, 0, Integer.MIN_VALUE, 0);
    x.put(3, 1, -1, 0);
    due.is("the least int by -1", x.rest(3, 0, 1), 1);
    due.is("the least int by -1", x.bits(3, 0), 0);
    due.is("by itself", x.rest(3, 1, 1), 1);
    due.is("by itself", x.bits(3, 1), 0);
  }

  private static void restErrors() {
    EngravedLines x = fourSorts();
    for (int sort = 0; sort < 4; sort++) {
      x.put(sort, 0, 5, 0);
      due.is("by 0", x.rest(sort, 0, 1), Due.NOUGHT);
      due.is("0 by 0", x.rest(sort, 1, 1), Due.NOUGHT);
      due.is("number 5", x.rest(sort, 5, 0), Due.LOST);
      due.is("by number 5", x.rest(sort, 0, 5), Due.LOST);
      due.is("by number -1", x.rest(sort, 0, -1), Due.LOST);
      due.is("number -1 by 0", x.rest(sort, -1, 1), Due.LOST);
      due.is("it stays", x.cast(sort, 0), 5);
    }
    due.is("rest(-1, 0, 0)", x.rest(-1, 0, 0), Due.BEYOND);
    due.is("rest(4, 0, 0)", x.rest(4, 0, 0), Due.BEYOND);
    x.sheet(2, -1, 0);
    due.is("rest of a missing one", x.rest(2, 0, 0), Due.LOST);
    due.is("told(6)", x.told(6), 8);
    due.is("told(7)", x.told(7), 17);
  }

  // Promise 31
  private static void lays() {
    EngravedLines x = Due.read("n1 n1 n1 n1");
    x.width(70);
    float l = 6f + (70f - 24f) / 12f * 3f;
    float[] at = {0, l, l + l, l + l + l};
    for (int sort = 0; sort < 4; sort++) {
      x.sheet(sort, sort, 5);
      for (int i = 0; i < 5; i++) {
        x.put(sort, i, 9, 0);
      }
      due.is("lays", x.lays(sort, 0, 3), 4);
      for (int i = 0; i < 4; i++) {
        long want = sort == 0 ? Float.floatToIntBits(at[i])
            : sort == 1 ? Double.doubleToLongBits(at[i]) : (int) at[i];
        due.is("sort " + sort + ", number " + i, x.bits(sort, i), want);
      }
      due.is("what is behind stays", x.cast(sort, 4), 9);
      due.is("of a part", x.lays(sort, 1, 2), 2);
      due.is("of a part", x.cast(sort, 1), 35);
      due.is("what is behind stays", x.cast(sort, 2), (int) (l + l));
    }
    x.sheet(0, 3, 2);
    due.is("as many as it has room for", x.lays(0, 0, 3), 2);
    due.is("as many as it has room for", x.cast(0, 1), (int) l);
    x.sheet(0, 0, 0);
    due.is("no room", x.lays(0, 0, 3), 0);
  }

  private static void laysErrors() {
    EngravedLines x = Due.read("n1 n1");
    x.sheet(0, 0, 5);
    due.is("lays(-1, 0, 1)", x.lays(-1, 0, 1), Due.BEYOND);
    due.is("lays(4, 0, 1)", x.lays(4, 0, 1), Due.BEYOND);
    due.is("lays(0, 0, 2)", x.lays(0, 0, 2), Due.BEYOND);
    due.is("lays(1, 1, 0)", x.lays(1, 1, 0), Due.BEYOND);
    due.is("lays(1, 0, 1)", x.lays(1, 0, 1), Due.LOST);
    x.sheet(1, 1, 0);
    due.is("lays of none", x.lays(1, 0, 1), 0);
    due.is("told(7)", x.told(7), 1);
  }
}
