/** Promises 26 to 31 at their bounds: sizes, powers, numbers that wrap or are held, rests of 0. */
public final class SheetBoundsTest {
  private static final Due due = new Due();
  private static final long MAX = Long.MAX_VALUE;
  private static final long MIN = Long.MIN_VALUE;

  public static void main(String[] args) {
    sizes();
    missing();
    powers();
    lowestBits();
    powersOfWholes();
    roundedTwice();
    castOfFloats();
    castOfDoubles();
    castOfWholes();
    restsOfWholes();
    restsOfPoints();
    restsAroundNought();
    restOfItself();
    roomForAt();
    atOfWholes();
    bitsLikeErrors();
    due.end();
  }

  private static EngravedLines sorts(int n) {
    EngravedLines x = new EngravedLines();
    for (int sort = 0; sort < 4; sort++) {
      x.sheet(sort, sort, n);
    }
    return x;
  }

  /** "at most 40"; "A SHEET has n numbers, all 0". */
  private static void sizes() {
    for (int sort = 0; sort < 4; sort++) {
      EngravedLines x = new EngravedLines();
      int there = 0;
      for (int n = -3; n <= 43; n++) {
        boolean fits = n >= 0 && n <= 40;
        String call = "sheet(3, " + sort + ", " + n + ")";
        due.is(call, x.sheet(3, sort, n), fits ? 1 : n < 0 ? Due.STATE : Due.BEYOND);
        there = fits ? n : there;
        if (fits && n > 0) {
          due.is("last number after " + call, x.bits(3, n - 1), 0);
        }
        due.is("one more after " + call, x.bits(3, there), Due.LONG_LOST);
        due.is("put to the last", x.put(3, there - 1, 1, 0), there == 0 ? Due.LOST : 1);
      }
      due.is("the last number stays", x.cast(3, 39), 1);
      due.is("anew", x.sheet(3, sort, 40), 1);
      for (int i = 0; i < 40; i++) {
        due.is("number " + i + " anew", x.bits(3, i), 0);
      }
    }
  }

  /** "(-1: it is missing, n doesn't matter)", "or missing (as at first)". */
  private static void missing() {
    for (int n : new int[] {-1, 0, 1, 40, 41, Integer.MIN_VALUE, Integer.MAX_VALUE}) {
      EngravedLines x = sorts(3);
      due.is("sheet(1, -1, " + n + ")", x.sheet(1, -1, n), 1);
      due.is("sheet(1, -1, " + n + ") again", x.sheet(1, -1, n), 1);
      due.is("bits", x.bits(1, 0), Due.LONG_LOST);
      due.is("cast", x.cast(1, 0), Due.LOST);
      due.is("put", x.put(1, 0, 1, 0), Due.LOST);
      due.is("rest", x.rest(1, 0, 0), Due.LOST);
      x.add(0, 1);
      due.is("lays", x.lays(1, 0, 0), Due.LOST);
      due.is("its neighbours stay", x.bits(0, 2) + x.bits(2, 2), 0);
      due.is("no ERROR of BEYOND, STATE", x.told(1) + x.told(3), 0);
    }
    EngravedLines y = sorts(2);
    y.put(0, 1, 5, 0);
    y.sheet(0, -1, 0);
    y.sheet(0, 1, 2);
    due.is("all 0 after it was missing", y.bits(0, 1), 0);
  }

  /** "v by 2 to the k (0 to 20)". */
  private static void powers() {
    long[] values = {0, 1, -1, 3, -3, 16777215, -16777217, 1L << 53, (1L << 53) + 1, MAX, MIN};
    for (int k = -3; k <= 23; k++) {
      EngravedLines x = sorts(1);
      boolean fits = k >= 0 && k <= 20;
      for (long v : values) {
        String call = "put(.., " + v + ", " + k + ")";
        due.is(call, x.put(0, 0, v, k), fits ? 1 : Due.BEYOND);
        due.is(call, x.put(1, 0, v, k), fits ? 1 : Due.BEYOND);
        float f = fits ? (float) v / (float) (1 << k) : 0;
        double d = fits ? (double) v / (1 << k) : 0;
        due.is("FLOAT of " + call, x.bits(0, 0), Float.floatToIntBits(f));
        due.is("64 bits of " + call, x.bits(1, 0), Double.doubleToLongBits(d));
      }
    }
  }

  /** "of whole ones the lowest bits of v": the least and greatest that fit, and those next to them. */
  private static void lowestBits() {
    EngravedLines x = sorts(2);
    long[] edges = {0, 1L << 15, 1L << 16, 1L << 31, 1L << 32, 1L << 47, MIN, 98304, 3L << 31};
    for (long edge : edges) {
      for (long by = -2; by <= 2; by++) {
        for (long v : new long[] {edge + by, -edge + by}) {
          x.put(2, 1, v, 0);
          x.put(3, 1, v, 0);
          // By another way than a cast: the rest by 2 to the bits, held to half of that.
          due.is("16 bits of " + v, x.bits(2, 1), Math.floorMod(v + 32768, 65536) - 32768L);
          due.is("32 bits of " + v, x.bits(3, 1),
              Math.floorMod(v + 2147483648L, 4294967296L) - 2147483648L);
        }
      }
      x = sorts(2);
    }
  }

  /** "(k doesn't matter)". */
  private static void powersOfWholes() {
    EngravedLines x = sorts(1);
    for (int k = 0; k <= 20; k++) {
      x.put(2, 0, -70001, k);
      x.put(3, 0, -5000000001L, k);
      due.is("16 bits, k " + k, x.bits(2, 0), -70001 + 65536);
      due.is("32 bits, k " + k, x.bits(3, 0), -5000000001L + 4294967296L);
    }
  }

  /** "rounded to its sort, by that power, rounded again": halves go to the even one. */
  private static void roundedTwice() {
    long[] values = {16777216, 16777217, 16777218, 16777219, 16777220, 16777221, 33554434,
        33554435, 33554438, 33554442, 1073741888, 1073741887, 1073741889, 9007199254740992L,
        9007199254740993L, 9007199254740994L, 9007199254740995L, 9007199254740997L, MAX - 511,
        MAX - 512, MAX - 1023, 549755780000L};
    EngravedLines x = sorts(1);
    for (long v : values) {
      for (long s : new long[] {v, -v}) {
        x.put(0, 0, s, 3);
        x.put(1, 0, s, 3);
        due.is("FLOAT " + s, x.bits(0, 0), Float.floatToIntBits((float) s / 8f));
        due.is("64 bits " + s, x.bits(1, 0), Double.doubleToLongBits((double) s / 8d));
      }
    }
    x.put(0, 0, 16777217, 0);
    due.is("a FLOAT's half goes to the even one", x.cast(0, 0), 16777216);
    x.put(0, 0, 16777219, 0);
    due.is("a FLOAT's half goes to the even one", x.cast(0, 0), 16777220);
  }

  private static void isCast(int sheet, long v, int k, int want) {
    EngravedLines x = sorts(1);
    x.put(sheet, 0, v, k);
    due.is("cast of " + v + " by 2 to the " + k + ", sort " + sheet, x.cast(sheet, 0), want);
  }

  /** "(what stands behind the point is cut; held to ints ..)". */
  private static void castOfFloats() {
    isCast(0, 2147483520, 0, 2147483520);
    isCast(0, 2147483583, 0, 2147483520);
    isCast(0, 2147483584, 0, Integer.MAX_VALUE);
    isCast(0, 2147483648L, 0, Integer.MAX_VALUE);
    isCast(0, -2147483648L, 0, Integer.MIN_VALUE);
    isCast(0, -2147483583, 0, -2147483520);
    isCast(0, -2147483905L, 0, Integer.MIN_VALUE);
    isCast(0, -4294967296L, 0, Integer.MIN_VALUE);
    isCast(0, 4294967296L, 0, Integer.MAX_VALUE);
    isCast(0, MAX, 20, Integer.MAX_VALUE);
    isCast(0, MIN, 20, Integer.MIN_VALUE);
    for (int quarters = -9; quarters <= 9; quarters++) {
      isCast(0, quarters, 2, quarters / 4);
      isCast(1, quarters, 2, quarters / 4);
    }
  }

  private static void castOfDoubles() {
    isCast(1, 4294967293L, 1, 2147483646);
    isCast(1, 4294967294L, 1, 2147483647);
    isCast(1, 4294967295L, 1, 2147483647);
    isCast(1, 4294967296L, 1, 2147483647);
    isCast(1, 4294967297L, 1, 2147483647);
    isCast(1, -4294967295L, 1, -2147483647);
    isCast(1, -4294967296L, 1, -2147483648);
    isCast(1, -4294967297L, 1, -2147483648);
    isCast(1, -4294967299L, 1, -2147483648);
    isCast(1, 4294967296L, 0, 2147483647);
    isCast(1, -4294967296L, 0, -2147483648);
    isCast(1, MAX, 0, 2147483647);
    isCast(1, MIN, 0, -2147483648);
    isCast(1, 1048575, 20, 0);
    isCast(1, 1048576, 20, 1);
    isCast(1, -1048575, 20, 0);
    isCast(1, -1048576, 20, -1);
  }

  /** "of 32 bits and fewer as it is". */
  private static void castOfWholes() {
    isCast(2, 32767, 0, 32767);
    isCast(2, 32768, 0, -32768);
    isCast(2, -32769, 0, 32767);
    isCast(2, 65535, 0, -1);
    isCast(3, 2147483647, 0, 2147483647);
    isCast(3, 2147483648L, 0, -2147483648);
    isCast(3, -2147483649L, 0, 2147483647);
    isCast(3, 4294967295L, 0, -1);
  }

  /** "the rest that it leaves by number j of it (with the sign of number i ..)". */
  private static void restsOfWholes() {
    EngravedLines x = sorts(2);
    int asked = 0;
    for (int i = -7; i <= 7; i++) {
      for (int j = -3; j <= 3; j++) {
        for (int sheet = 2; sheet < 4; sheet++) {
          x.put(sheet, 0, i, 0);
          x.put(sheet, 1, j, 0);
          String of = i + " by " + j;
          due.is("rest of " + of, x.rest(sheet, 0, 1), j == 0 ? Due.NOUGHT : 1);
          int size = j == 0 ? Math.abs(i) : Math.floorMod(Math.abs(i), Math.abs(j));
          due.is("rest of " + of, x.bits(sheet, 0), i < 0 ? -size : size);
          due.is("number j of " + of, x.bits(sheet, 1), j);
          asked += 5;
        }
        if (asked > 480) {
          x = sorts(2);
          asked = 0;
        }
      }
    }
    int[][] least = {{2, -32768}, {3, Integer.MIN_VALUE}};
    for (int[] l : least) {
      EngravedLines y = sorts(3);
      y.put(l[0], 0, l[1], 0);
      y.put(l[0], 1, -1, 0);
      y.put(l[0], 2, l[1] + 1, 0);
      due.is("the least by the one above it", y.rest(l[0], 0, 2), 1);
      due.is("its rest", y.bits(l[0], 0), -1);
      y.put(l[0], 0, l[1], 0);
      due.is("the least by -1", y.rest(l[0], 0, 1), 1);
      due.is("its rest", y.bits(l[0], 0), 0);
    }
  }

  /** "with a point, too", told by BITS: the rest of a number below 0 is -0 where it is 0. */
  private static void restsOfPoints() {
    for (int i = -9; i <= 9; i++) {
      for (int j = -5; j <= 5; j++) {
        EngravedLines x = sorts(2);
        for (int sheet = 0; sheet < 2; sheet++) {
          x.put(sheet, 0, i, 2);
          x.put(sheet, 1, j, 1);
          String of = i + " quarters by " + j + " halves";
          due.is("rest of " + of, x.rest(sheet, 0, 1), j == 0 ? Due.NOUGHT : 1);
          int quarters = j == 0 ? Math.abs(i) : Math.floorMod(Math.abs(i), 2 * Math.abs(j));
          double size = quarters / 4d;
          double rest = i < 0 ? -size : size;
          due.is("rest of " + of, x.bits(sheet, 0), sheet == 0
              ? Float.floatToIntBits((float) rest) : Double.doubleToLongBits(rest));
        }
      }
    }
  }

  private static void restsAroundNought() {
    EngravedLines x = sorts(3);
    for (int sheet = 0; sheet < 2; sheet++) {
      // -0 is 0: nothing is left by it; a rest of -0 is -0, one of 0 is 0.
      x.put(sheet, 0, -4, 0);
      x.put(sheet, 1, 2, 0);
      due.is("-4 by 2", x.rest(sheet, 0, 1), 1);
      long minusNought = sheet == 0 ? Integer.MIN_VALUE : MIN;
      due.is("BITS of -0", x.bits(sheet, 0), minusNought);
      due.is("cast of -0", x.cast(sheet, 0), 0);
      due.is("2 by -0", x.rest(sheet, 1, 0), Due.NOUGHT);
      due.is("-0 by -0", x.rest(sheet, 0, 0), Due.NOUGHT);
      due.is("-0 by 2", x.rest(sheet, 0, 1), 1);
      due.is("BITS of -0", x.bits(sheet, 0), minusNought);
      due.is("0 by 2", x.rest(sheet, 2, 1), 1);
      due.is("BITS of 0", x.bits(sheet, 2), 0);
      x.put(sheet, 0, -1, 20);
      x.put(sheet, 2, MAX, 0);
      due.is("a small one by a large one", x.rest(sheet, 0, 2), 1);
      due.is("stays", x.bits(sheet, 0), sheet == 0 ? Float.floatToIntBits(-1f / 1048576f)
          : Double.doubleToLongBits(-1d / 1048576d));
      due.is("a large one by a small one", x.rest(sheet, 2, 0), 1);
      due.is("is 0", x.bits(sheet, 2), 0);
      x.put(sheet, 0, 0, 0);
      due.is("by 0", x.rest(sheet, 1, 0), Due.NOUGHT);
      due.is("by 0, as it was", x.cast(sheet, 1), 2);
    }
  }

  private static void restOfItself() {
    EngravedLines x = sorts(1);
    for (int sheet = 0; sheet < 4; sheet++) {
      x.put(sheet, 0, 7, 0);
      due.is("7 by itself", x.rest(sheet, 0, 0), 1);
      due.is("is 0", x.bits(sheet, 0), 0);
      due.is("and then by 0", x.rest(sheet, 0, 0), Due.NOUGHT);
      x.put(sheet, 0, -7, 0);
      due.is("-7 by itself", x.rest(sheet, 0, 0), 1);
      due.is("is 0", x.cast(sheet, 0), 0);
      due.is("and then by 0", x.rest(sheet, 0, 0), Due.NOUGHT);
    }
  }

  /** "from number 0 on, as many as it has room for .. : how many". */
  private static void roomForAt() {
    for (int n = 0; n <= 40; n += n < 4 ? 1 : 7) {
      for (int columns : new int[] {1, 2, 3, 32}) {
        EngravedLines x = Due.read("n1" + " n1".repeat(columns - 1));
        x.sheet(2, 2, n);
        for (int i = 0; i < n; i++) {
          x.put(2, i, -7, 0);
        }
        int laid = Math.min(n, columns);
        due.is(columns + " to " + n, x.lays(2, 0, columns - 1), laid);
        for (int i = 0; i < n; i++) {
          due.is("number " + i, x.cast(2, i), i < laid ? x.at(0, columns - 1, i, 2) : -7);
        }
        due.is("no number more", x.cast(2, n), Due.LOST);
      }
    }
  }

  /** "(of whole ones cut ..)": AT of a STRETCH that begins later, in all sorts. */
  private static void atOfWholes() {
    EngravedLines x = Due.read("n9 n1 r2 n5");
    x.width(100);
    float force = (100f - (6f + 9f + 12.75f)) / (3f + 4.5f + 6.375f);
    float second = 6f + force * 3f;
    float third = second + (9f + force * 4.5f);
    float[] at = {0, second, third};
    for (int sort = 0; sort < 4; sort++) {
      x.sheet(1, sort, 4);
      x.put(1, 3, 1, 0);
      due.is("lays", x.lays(1, 1, 3), 3);
      for (int i = 0; i < 3; i++) {
        long want = sort == 0 ? Float.floatToIntBits(at[i])
            : sort == 1 ? Double.doubleToLongBits(at[i]) : (int) at[i];
        due.is("number " + i + " of sort " + sort, x.bits(1, i), want);
      }
      due.is("what is behind", x.cast(1, 3), 1);
    }
    due.holds("what stands behind the point is cut", at[1] > (int) at[1] && at[2] > (int) at[2]);
  }

  /** "(BITS may be as an ERROR is.)": none is told then. */
  private static void bitsLikeErrors() {
    EngravedLines x = sorts(2);
    for (int k = 1; k <= 7; k++) {
      x.put(3, 0, Due.LOW - k, 0);
      due.is("BITS like ERROR " + k, x.bits(3, 0), Due.LOW - k);
      due.is("cast like ERROR " + k, x.cast(3, 0), Due.LOW - k);
      due.is("told(" + k + ")", x.told(k), 0);
    }
    x.put(0, 0, -3, 1);
    due.is("BITS of -1.5", x.bits(0, 0), Float.floatToIntBits(-1.5f));
    x.put(1, 0, -3, 1);
    due.is("BITS of -1.5", x.bits(1, 0), Double.doubleToLongBits(-1.5));
  }
}
