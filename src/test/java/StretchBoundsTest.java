/** Promises 8 to 13 at their bounds: one COLUMN, 32, none or all HELD, the first and last CELL. */
public final class StretchBoundsTest {
  private static final Due due = new Due();

  public static void main(String[] args) {
    oneColumn();
    allColumns();
    sumsOneByOne();
    justTheRod();
    againAndAgain();
    allHeld();
    nothingIsLeftOfAnotherStretch();
    partOfAll();
    badAroundNothing();
    badAroundTheRods();
    lastCells();
    inkOfWide();
    gapBetween();
    apartAround8();
    apartInOneCell();
    due.end();
  }

  /** NOTES of DURATION 1 (IDEAL 6, FLEX 3), each with a ROD. */
  private static EngravedLines rods(int width, int... rods) {
    EngravedLines x = new EngravedLines();
    x.width(width);
    for (int i = 0; i < rods.length; i++) {
      x.add(0, 1);
      x.set(i, 3, rods[i] - 1);
    }
    return x;
  }

  /** A STRETCH of one COLUMN, of the least and the greatest WIDTH. */
  private static void oneColumn() {
    for (int width : new int[] {20, 21, 379, 380}) {
      EngravedLines x = rods(width, 3);
      due.bits("FORCE at " + width, x.force(0, 0), (width - 6f) / 3f);
      due.is("HELD at " + width, x.held(0, 0), 0);
      due.bits("LENGTH at " + width, x.at(0, 0, 0, 0), 6f + (width - 6f) / 3f * 3f);
      due.bits("AT at " + width, x.at(0, 0, 0, 1), 0);
      due.is("CELL at " + width, x.at(0, 0, 0, 2), 0);
    }
    EngravedLines bar = Due.read("b");
    due.bits("FORCE of a BAR", bar.force(0, 0), (120f - 3f) / 0.25f);
  }

  private static void allColumns() {
    EngravedLines x = new EngravedLines();
    x.width(380);
    for (int i = 0; i < 32; i++) {
      x.add(i % 2, 1);
    }
    float force = (380f - 192f) / 96f;
    due.bits("FORCE of 32", x.force(0, 31), force);
    float length = 6f + force * 3f;
    float at = 0;
    for (int i = 0; i < 32; i++) {
      due.bits("AT of " + i, x.at(0, 31, i, 1), at);
      due.is("CELL of " + i, x.at(0, 31, i, 2), (int) at);
      due.bits("LENGTH of " + i, x.at(0, 31, i, 0), length);
      at += length;
    }
    due.is("COLUMN 32", x.at(0, 31, 32, 1), Due.BEYOND);
    due.is("COLUMNS 0 to 32", x.held(0, 32), Due.BEYOND);
  }

  /** "SUMS of FLOATS begin with 0 and go on one by one", each of them rounded. */
  private static void sumsOneByOne() {
    EngravedLines x = new EngravedLines();
    x.width(373);
    for (int i = 0; i < 32; i++) {
      x.add(0, 1 + i);
    }
    float at = 0;
    double unrounded = 0;
    int unlike = 0;
    for (int i = 0; i < 32; i++) {
      due.bits("AT of " + i, x.at(0, 31, i, 1), at);
      unlike += at == (float) unrounded ? 0 : 1;
      float length = Float.intBitsToFloat(x.at(0, 31, i, 0));
      at += length;
      unrounded += length;
    }
    due.holds("it is of matter that they are rounded", unlike > 0);
  }

  /** "all those .. of which (IDEAL + (FORCE times FLEX)) is less than ROD": not those just as long. */
  private static void justTheRod() {
    for (int rod = 11; rod <= 13; rod++) {
      due.is("just as long, " + rod, rods(2 * rod, rod, rod).held(0, 1), 0);
      due.is("a little longer, " + rod, rods(2 * rod + 1, rod, rod).held(0, 1), 0);
      due.is("a little shorter, " + rod, rods(2 * rod - 1, rod, rod).held(0, 1), 2);
    }
    // Of IDEALS and no FORCE at all: a NOTE of DURATION 4 is 12 long.
    EngravedLines x = Due.read("n4 n4");
    x.width(24);
    x.set(0, 3, 11);
    due.is("ROD 12", x.held(0, 1), 0);
    due.bits("no FORCE", x.force(0, 1), 0);
    x.set(0, 3, 12);
    due.is("ROD 13", x.held(0, 1), 1);
    due.bits("FORCE of the other one", x.force(0, 1), ((24f - 13f) - 12f) / 6f);
  }

  /** "Again and again": FORCE is found six times, and four times here below. */
  private static void againAndAgain() {
    int[] durations = {64, 32, 8, 2, 1, 32, 16};
    int[] rods = {12, 7, 4, 10, 13, 6, 5};
    EngravedLines x = new EngravedLines();
    x.width(57);
    for (int i = 0; i < 7; i++) {
      x.add(0, durations[i]);
      x.set(i, 3, rods[i] - 1);
    }
    // HELD, round by round: 3 and 4; 0 (which was just 12 long); 1; 5; 6. Then 2 is just 4 long.
    due.is("HELD", x.held(0, 6), 6);
    float force = ((57f - 53f) - 15f) / 7.5f;
    due.bits("FORCE", x.force(0, 6), force);
    due.bits("LENGTH of the last one", x.at(0, 6, 2, 0), 15f + force * 7.5f);
    due.bits("LENGTH of one that is HELD", x.at(0, 6, 1, 0), 7);
    // All are 5 long: the first is HELD; 7 by 3: the second; then 1, which is less than 2.
    EngravedLines y = rods(20, 13, 5, 2, 2);
    due.is("HELD one by one", y.held(0, 3), 4);
    due.bits("FORCE, all being HELD", y.force(0, 3), 0);
    due.is("without the first of them", y.held(1, 3), 0);
  }

  /** "if all are HELD, FORCE is 0", and LENGTH is ROD. */
  private static void allHeld() {
    for (int n = 2; n <= 32; n++) {
      int[] rods = new int[n];
      java.util.Arrays.fill(rods, 13);
      EngravedLines x = rods(20, rods);
      due.is("HELD of " + n, x.held(0, n - 1), n);
      due.bits("FORCE of " + n, x.force(0, n - 1), 0);
      due.bits("LENGTH of the last", x.at(0, n - 1, n - 1, 0), 13);
      due.bits("AT of the last", x.at(0, n - 1, n - 1, 1), 13 * (n - 1));
    }
  }

  /** "at first none of them is HELD": whatever was HELD in another STRETCH, on another line. */
  private static void nothingIsLeftOfAnotherStretch() {
    EngravedLines x = rods(20, 13, 13, 13, 2);
    due.is("all HELD", x.held(0, 3), 4);
    x.width(380);
    due.is("none HELD", x.held(0, 3), 0);
    due.bits("FORCE", x.force(0, 3), (380f - 24f) / 12f);
    x.width(20);
    due.is("all HELD", x.held(0, 2), 3);
    due.is("one alone", x.held(3, 3), 0);
    due.bits("FORCE of one alone", x.force(3, 3), 14f / 3f);
    due.is("all HELD", x.held(0, 3), 4);
    x.set(0, 3, 1);
    due.is("first one's ROD 2", x.held(0, 0), 0);
    due.bits("AT of a first one", x.at(2, 3, 2, 1), 0);
    due.bits("AT of a second one", x.at(2, 3, 3, 1), 13);
  }

  /** "(i from a to b)": COLUMNS of a STRETCH that begins later, and those next to it. */
  private static void partOfAll() {
    EngravedLines x = Due.read("n64 n1 r4 b n2 n64");
    x.width(60);
    float force = (60f - (6f + 12f + 3f + 9f)) / (3f + 6f + 0.25f + 4.5f);
    float[] lengths = {6f + force * 3f, 12f + force * 6f, 3f + force * 0.25f, 9f + force * 4.5f};
    float at = 0;
    for (int i = 0; i < 4; i++) {
      due.bits("LENGTH of " + (1 + i), x.at(1, 4, 1 + i, 0), lengths[i]);
      due.bits("AT of " + (1 + i), x.at(1, 4, 1 + i, 1), at);
      due.is("CELL of " + (1 + i), x.at(1, 4, 1 + i, 2), (int) at);
      at += lengths[i];
    }
    for (int what = 0; what < 3; what++) {
      due.is("the one ahead", x.at(1, 4, 0, what), Due.BEYOND);
      due.is("the one behind", x.at(1, 4, 5, what), Due.BEYOND);
    }
  }

  /** "if q is below 0, that times 2". */
  private static void badAroundNothing() {
    EngravedLines x = Due.read("n4 n4");
    int[] widths = {23, 24, 25};
    for (int width : widths) {
      x.width(width);
      float q = (width - 24f) / 12f;
      float bad = 100f * q * q;
      due.bits("BAD at " + width, x.bad(0, 1), width == 23 ? bad * 2f : bad);
    }
    EngravedLines y = Due.read("b b b");
    y.width(20);
    due.bits("of BARS at 20", y.bad(0, 2), 100f * (11f / 0.75f) * (11f / 0.75f));
    y.width(380);
    due.bits("of one BAR at 380", y.bad(1, 1), 100f * 1508f * 1508f);
  }

  /** "none, if RODS of all together are more than WIDTH". */
  private static void badAroundTheRods() {
    for (int width = 20; width <= 32; width++) {
      EngravedLines x = rods(width, 13, 2, 11);
      float q = (width - 18f) / 9f;
      due.is("RODS 26 at " + width, x.bad(0, 2),
          width < 26 ? Due.NONE : Float.floatToIntBits(100f * q * q));
    }
    int[] rods = new int[30];
    java.util.Arrays.fill(rods, 13);
    rods[29] = 3;
    EngravedLines x = rods(380, rods);
    due.is("RODS 380 at 380", x.bad(0, 29) == Due.NONE ? 1 : 0, 0);
    x.set(29, 3, 3);
    due.is("RODS 381 at 380", x.bad(0, 29), Due.NONE);
  }

  /** "CELLS 0 to 399", "(as far as there are CELLS)". */
  private static void lastCells() {
    int[] rods = new int[32];
    java.util.Arrays.fill(rods, 13);
    rods[30] = 9;
    EngravedLines x = rods(20, rods);
    x.set(31, 2, 20);
    due.is("CELL of the last", x.at(0, 31, 31, 2), 399);
    due.is("INK in the last CELL", x.sky(0, 31, 0, 399), 21);
    due.is("INK in the last CELL", x.sky(0, 31, 1, 399), 13);
    due.is("the gap ahead of it", x.sky(0, 31, 0, 398), Due.NONE);
    due.is("no CELL 400", x.sky(0, 31, 0, 400), Due.BEYOND);
    due.is("APART of it", x.apart(0, 31, 0, 31), 21 - 13 + 2);
    x.set(30, 3, 9);
    due.is("CELL of the last", x.at(0, 31, 31, 2), 400);
    due.is("nothing in the last CELL", x.sky(0, 31, 0, 399), Due.NONE);
    due.is("the last INK", x.sky(0, 31, 0, 398), 1);
    x.set(30, 3, 10);
    due.is("INK that ends in the last CELL", x.sky(0, 31, 1, 399), -7);
    due.is("CELL of the last", x.at(0, 31, 31, 2), 401);
    due.is("CELL 0", x.sky(0, 31, 0, 0), 1);
    due.is("no CELL -1", x.sky(0, 31, 0, -1), Due.BEYOND);
  }

  /** "INK of a COLUMN lies in CELLS from its CELL on, as many as it is WIDE". */
  private static void inkOfWide() {
    EngravedLines x = Due.read("n1+2");
    for (int wide = 1; wide <= 12; wide++) {
      x.set(0, 3, wide);
      for (int cell = 0; cell < 14; cell++) {
        String of = "WIDE " + wide + ", CELL " + cell;
        due.is(of, x.sky(0, 0, 0, cell), cell < wide ? 3 : Due.NONE);
        due.is(of, x.sky(0, 0, 1, cell), cell < wide ? -5 : Due.NONE);
      }
    }
  }

  /** A CELL with nothing in it after another STRETCH had something there. */
  private static void gapBetween() {
    EngravedLines x = rods(20, 13, 13, 13);
    for (int cell = 0; cell < 40; cell++) {
      boolean has = cell % 13 != 12 && cell < 39;
      due.is("three, CELL " + cell, x.sky(0, 2, 0, cell), has ? 1 : Due.NONE);
      due.is("one, CELL " + cell, x.sky(1, 1, 0, cell), cell < 12 ? 1 : Due.NONE);
    }
  }

  /** "the least whole number v of 8 or more such that .. is v or less". */
  private static void apartAround8() {
    EngravedLines x = Due.read("r1 r1");
    for (int adorn = 0; adorn <= 9; adorn++) {
      x.set(1, 4, adorn);
      due.is("3 + 3 + 2 and ADORN " + adorn, x.apart(0, 0, 1, 1), 8 + adorn);
      due.is("its ADORN above doesn't matter", x.apart(1, 1, 0, 0), 8);
    }
    EngravedLines y = Due.read("r1 n1");
    for (int step = -12; step <= 20; step++) {
      y.set(1, 2, step);
      int top = step < 0 ? step + 7 : step + 1;
      int bottom = step < 0 ? step - 1 : step - 7;
      due.is("below a REST, STEP " + step, y.apart(0, 0, 1, 1), Math.max(8, top + 3 + 2));
      due.is("above a REST, STEP " + step, y.apart(1, 1, 0, 0), Math.max(8, 3 - bottom + 2));
    }
  }

  /** "in each CELL in which both have some": the last CELL of the one, the first of the other. */
  private static void apartInOneCell() {
    EngravedLines x = Due.read("n1-12 r1 n1+20");
    x.width(20);
    x.set(0, 3, 12);
    x.set(2, 3, 12);
    x.set(1, 3, 10);
    due.is("CELL of the NOTE", x.at(1, 2, 2, 2), 11);
    due.is("both in CELL 11", x.apart(0, 0, 1, 2), 21 + 13 + 2);
    x.set(1, 3, 11);
    due.is("CELL of the NOTE", x.at(1, 2, 2, 2), 12);
    due.is("both in none of its CELLS", x.apart(0, 0, 1, 2), 3 + 13 + 2);
    x.set(0, 2, 0);
    due.is("3 + 7 + 2", x.apart(0, 0, 1, 2), 12);
    x.set(0, 3, 1);
    due.is("both in CELL 0 alone", x.apart(0, 0, 1, 2), 12);
    due.is("the other way round", x.apart(1, 2, 0, 0), 8);
  }
}
