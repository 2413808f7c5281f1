/** Promises 14 to 17: the best way to break lines. */
public final class LinesTest {
  private static final Due due = new Due();

  public static void main(String[] args) {
    oneLine();
    severalLines();
    noWay();
    firstOfTheBest();
    sums();
    moved();
    movedLines();
    due.end();
  }

  private static float bad(float width, float ideals, float flexes) {
    float q = (width - ideals) / flexes;
    float bad = 100f * q * q;
    return q < 0 ? bad * 2f : bad;
  }

  private static void isLine(EngravedLines x, int k, int first, int last) {
    due.is("line(" + k + ", 0)", x.line(k, 0), first);
    due.is("line(" + k + ", 1)", x.line(k, 1), last);
  }

  // Promises 14, 15, 16
  private static void oneLine() {
    EngravedLines x = new EngravedLines();
    due.is("lines() of none", x.lines(), 0);
    due.is("line(0, 0) of none", x.line(0, 0), Due.BEYOND);
    due.is("total() of none", x.total(), 0);
    x.add(0, 1);
    x.add(0, 1);
    x.width(60);
    due.is("the last COLUMN ends a line without a BAR", x.lines(), 1);
    isLine(x, 0, 0, 1);
    due.is("line(0, 2)", x.line(0, 2), 30);
    due.is("line(0, 3)", x.line(0, 3), Due.BEYOND);
    due.is("line(1, 0)", x.line(1, 0), Due.BEYOND);
    due.is("line(-1, 0)", x.line(-1, 0), Due.BEYOND);
    due.is("line(-1, 3)", x.line(-1, 3), Due.BEYOND);
    due.is("line(0, 4)", x.line(0, 4), Due.BEYOND);
    due.is("line(0, -1)", x.line(0, -1), Due.BEYOND);
    due.is("line(MAX, 3)", x.line(Integer.MAX_VALUE, 3), Due.BEYOND);
    due.is("line(MIN, MIN)", x.line(Integer.MIN_VALUE, Integer.MIN_VALUE), Due.BEYOND);
    due.bits("total()", x.total(), 6400);
  }

  /** Four lines' worth of n64 n64 b; on 54 wide two in a line are pressed, one is at its ease. */
  private static void severalLines() {
    EngravedLines x = Due.read("n64 n64 b n64 n64 b n64-12 n64 b n64+20 n64");
    x.width(54);
    due.is("lines()", x.lines(), 4);
    isLine(x, 0, 0, 2);
    isLine(x, 1, 3, 5);
    isLine(x, 2, 6, 8);
    isLine(x, 3, 9, 10);
    float one = bad(54f, 51f, 24.25f);
    due.bits("total()", x.total(), one + one + one + bad(54f, 48f, 24f));
    float force = 3f / 24.25f;
    float length = 24f + force * 12f;
    due.is("line(1, 2)", x.line(1, 2), (int) (length + length));
    due.is("line(3, 2)", x.line(3, 2), 27);
    due.is("line(0, 3)", x.line(0, 3), 10);
    due.is("line(1, 3)", x.line(1, 3), 10);
    due.is("line(2, 3)", x.line(2, 3), 21 + 13 + 2);
    due.is("line(3, 3)", x.line(3, 3), Due.BEYOND);
    due.is("line(4, 0)", x.line(4, 0), Due.BEYOND);
    x.width(100);
    due.is("lines() at 100", x.lines(), 2);
    isLine(x, 0, 0, 5);
    isLine(x, 1, 6, 10);
    x.width(380);
    due.is("lines() at 380", x.lines(), 1);
    // A BAR that becomes a NOTE ends no line; one at the end adds none.
    x.width(54);
    x.set(2, 0, 0);
    isLine(x, 0, 0, 5);
    x.drop();
    x.drop();
    isLine(x, x.lines() - 1, 6, 8);
  }

  private static void noWay() {
    EngravedLines x = new EngravedLines();
    x.width(20);
    for (int i = 0; i < 2; i++) {
      x.add(0, 1);
      x.set(i, 3, 12);
    }
    due.is("lines()", x.lines(), Due.NONE);
    due.is("line(0, 0)", x.line(0, 0), Due.NONE);
    due.is("line(7, 9)", x.line(7, 9), Due.NONE);
    due.is("total()", x.total(), Due.NONE);
    due.is("moved(0, 0, 0)", x.moved(0, 0, 0), Due.NONE);
    due.is("moved(2, 0, 0)", x.moved(2, 0, 0), Due.BEYOND);
    due.is("told(2)", x.told(2), 5);
    // It stays so, whatever comes behind.
    x.add(2, 1);
    x.add(0, 1);
    due.is("lines() with a BAR", x.lines(), Due.NONE);
    x.width(26 + 3);
    due.is("lines() of rods that are just the width", x.lines(), 2);
    x.width(26);
    due.is("lines() of rods that are more", x.lines(), Due.NONE);
    // A way through the first line alone is none.
    EngravedLines y = Due.read("b n1 n1");
    y.set(1, 3, 12);
    y.set(2, 3, 12);
    y.width(25);
    due.is("lines() whose last one has no room", y.lines(), Due.NONE);
    y.width(26);
    due.is("lines() whose last one has room", y.lines(), 2);
  }

  /** Three wide BARS, two of which fit: 462400 + 78400 either way, the first way is taken. */
  private static void firstOfTheBest() {
    EngravedLines x = Due.read("b b b");
    x.width(20);
    for (int i = 0; i < 3; i++) {
      x.set(i, 3, 6);
    }
    due.bits("bad(0, 0)", x.bad(0, 0), 462400);
    due.bits("bad(0, 1)", x.bad(0, 1), 78400);
    due.is("lines()", x.lines(), 2);
    isLine(x, 0, 0, 0);
    isLine(x, 1, 1, 2);
    due.bits("total()", x.total(), 540800);
  }

  /** 32 BARS of one line each: the SUM goes on one by one. */
  private static void sums() {
    EngravedLines x = new EngravedLines();
    x.width(21);
    float sum = 0;
    for (int i = 0; i < 32; i++) {
      x.add(2, 1);
      x.set(i, 3, 12);
      sum += bad(21f, 3f, 0.25f);
      due.is("lines()", x.lines(), i + 1);
      due.bits("total()", x.total(), sum);
    }
    isLine(x, 31, 31, 31);
    due.is("line(31, 2)", x.line(31, 2), 0);
    due.is("line(30, 3)", x.line(30, 3), 10);
    due.is("line(31, 3)", x.line(31, 3), Due.BEYOND);
    due.is("line(32, 0)", x.line(32, 0), Due.BEYOND);
  }

  // Promise 17
  private static void moved() {
    EngravedLines x = Due.read("n64 n64 b n64 n64 b n64 n64 b");
    x.width(54);
    due.is("as it is", x.moved(0, 0, 0), 0);
    due.is("another STEP", x.moved(0, 20, 0), 0);
    due.is("the same DURATION", x.moved(4, 0, 64), 0);
    due.is("a DURATION in the first line", x.moved(0, 0, 63), 1);
    due.is("a DURATION in the last line", x.moved(7, -12, 63), 1);
    due.is("DURATION of a BAR", x.moved(2, 0, 9), 0);
    due.is("nothing has changed", x.of(0, 1), 64);
    due.is("nothing has changed", x.of(7, 2), 0);
    int[][] wrong = {{-1, 0, 1}, {9, 0, 1}, {0, -13, 1}, {0, 21, 1}, {0, 0, -1}, {0, 0, 65},
        {Integer.MAX_VALUE, 0, 1}, {0, Integer.MIN_VALUE, Integer.MIN_VALUE}};
    for (int[] w : wrong) {
      due.is("moved(" + w[0] + ", " + w[1] + ", " + w[2] + ")", x.moved(w[0], w[1], w[2]),
          Due.BEYOND);
    }
    due.is("told(1)", x.told(1), wrong.length);
    // The first two lines become one: 115.4 and 1.5 are less than 189.6 and two times 1.5.
    due.is("DURATION 1", x.moved(0, -12, 1), 3);
  }

  /** Lines of other COLUMNS, and lines that are no more. */
  private static void movedLines() {
    EngravedLines x = Due.read("n64 b n64 b n64 b n64");
    x.width(30);
    due.is("lines()", x.lines(), 4);
    // A short NOTE alone would be stretched far: it shares a line with the next one.
    EngravedLines y = Due.read("n1 b n64 b n64 b n64");
    y.width(30);
    due.is("lines() then", y.lines(), 3);
    isLine(y, 0, 0, 3);
    due.is("all four stand otherwise", x.moved(0, 0, 1), 4);
    due.is("all three stand otherwise", y.moved(0, 0, 64), 3);
    EngravedLines z = Due.read("n64 b n64 b n64 b n1");
    z.width(30);
    due.is("lines() of z", z.lines(), 3);
    isLine(z, 2, 4, 6);
    due.is("only its last line", z.moved(6, 0, 64), 1);
    due.is("its last two lines", x.moved(6, 0, 1), 2);
  }
}
