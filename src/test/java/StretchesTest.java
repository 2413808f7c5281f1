/** Promises 8 to 13: force, what is held, places, badness, skylines, how far lines lie apart. */
public final class StretchesTest {
  private static final Due due = new Due();

  public static void main(String[] args) {
    force();
    heldOnes();
    at();
    bad();
    sky();
    apart();
    beyond();
    due.end();
  }

  /** NOTES of DURATION 1 (IDEAL 6, FLEX 3), each of a WIDE. */
  private static EngravedLines notes(int width, int... wide) {
    EngravedLines x = new EngravedLines();
    x.width(width);
    for (int i = 0; i < wide.length; i++) {
      x.add(0, 1);
      x.set(i, 3, wide[i]);
    }
    return x;
  }

  // Promise 8
  private static void force() {
    EngravedLines x = notes(60, 2, 2);
    due.bits("(60 - 12) by 6", x.force(0, 1), 8);
    due.bits("(60 - 6) by 3", x.force(1, 1), 18);
    x.width(20);
    due.bits("(20 - 12) by 6", x.force(0, 1), 8f / 6f);
    x.set(0, 1, 64);
    x.set(1, 1, 64);
    x.width(24);
    due.bits("(24 - 48) by 24", x.force(0, 1), -1);
    x.width(48);
    due.bits("no force", x.force(0, 1), 0);
    due.bits("one is held: (20 - 13 - 6) by 3", notes(20, 12, 2).force(0, 1), 1f / 3f);
    due.bits("the other, too", notes(20, 12, 7).force(0, 1), 0);
    due.bits("all held", notes(20, 12, 12).force(0, 1), 0);
    EngravedLines y = Due.read("n4 b r3 n64");
    y.width(100);
    float flex = 0.25f + 5.25f + 12f;
    due.bits("of a part", y.force(1, 3), (100f - (3f + 10.5f + 24f)) / flex);
  }

  // Promise 9
  private static void heldOnes() {
    due.is("none held", notes(60, 2, 2).held(0, 1), 0);
    due.is("one held", notes(20, 12, 2).held(0, 1), 1);
    due.is("a length just the rod's isn't", notes(20, 12, 6).held(0, 1), 1);
    due.is("held in the second round", notes(20, 12, 7).held(0, 1), 2);
    due.is("all held", notes(20, 12, 12).held(0, 1), 2);
    due.is("length is the rod's", notes(27, 8, 2, 2).held(0, 2), 0);
    due.is("length is a little less", notes(26, 8, 2, 2).held(0, 2), 1);
    EngravedLines x = notes(20, 12, 12, 2);
    due.is("of a part", x.held(1, 1), 0);
    due.is("of all", x.held(0, 2), 3);
    // A BAR of FLEX 0.25 is held where the NOTES give way.
    EngravedLines y = Due.read("n64 n64 b b");
    y.width(20);
    due.is("n64 n64 b b", y.held(0, 3), 2);
  }

  // Promise 10
  private static void at() {
    EngravedLines x = notes(60, 2, 2, 3);
    due.bits("LENGTH", x.at(0, 1, 0, 0), 30);
    due.bits("AT of the first", x.at(0, 1, 0, 1), 0);
    due.bits("AT", x.at(0, 1, 1, 1), 30);
    due.is("CELL", x.at(0, 1, 1, 2), 30);
    due.is("CELL of the first", x.at(1, 2, 1, 2), 0);
    due.bits("AT of the second of a later stretch", x.at(1, 2, 2, 1), 30);
    float third = 6f + (60f - 18f) / 9f * 3f;
    due.bits("AT of the third", x.at(0, 2, 2, 1), third + third);
    x.width(20);
    float l = 6f + 8f / 6f * 3f;
    due.bits("LENGTH at 20", x.at(0, 1, 1, 0), l);
    x.width(61);
    due.bits("AT of the second", x.at(0, 1, 1, 1), 30.5f);
    due.is("the point is cut", x.at(0, 1, 1, 2), 30);
    EngravedLines y = notes(20, 12, 2);
    due.bits("LENGTH of the held one", y.at(0, 1, 0, 0), 13);
    due.bits("AT behind it", y.at(0, 1, 1, 1), 13);
    due.bits("LENGTH of the other one", y.at(0, 1, 1, 0), 6f + 1f / 3f * 3f);
    EngravedLines z = notes(20, 12, 12);
    due.bits("LENGTH where all are held", z.at(0, 1, 1, 0), 13);
    EngravedLines full = fullOfWide();
    due.is("CELL beyond the CELLS", full.at(0, 31, 31, 2), 403);
    due.is("i ahead of a", x.at(1, 2, 0, 0), Due.BEYOND);
    due.is("i behind b", x.at(0, 1, 2, 0), Due.BEYOND);
    due.is("what -1", x.at(0, 1, 0, -1), Due.BEYOND);
    due.is("what 3", x.at(0, 1, 0, 3), Due.BEYOND);
    due.is("told(1)", x.told(1), 4);
  }

  private static EngravedLines fullOfWide() {
    int[] wide = new int[32];
    java.util.Arrays.fill(wide, 12);
    return notes(20, wide);
  }

  // Promise 11
  private static void bad() {
    EngravedLines x = notes(60, 2, 2);
    due.bits("100 times 8 times 8", x.bad(0, 1), 6400);
    due.bits("100 times 18 times 18", x.bad(1, 1), 32400);
    x.width(25);
    float q = (25f - 12f) / 6f;
    due.bits("rounded by itself", x.bad(0, 1), 100f * q * q);
    x.set(0, 1, 64);
    x.set(1, 1, 64);
    x.width(24);
    due.bits("below 0: twice", x.bad(0, 1), 200);
    x.width(48);
    due.bits("none at all", x.bad(0, 1), 0);
    due.is("rods are more", notes(25, 12, 12).bad(0, 1), Due.NONE);
    due.bits("rods are just the width", notes(26, 12, 12).bad(0, 1),
        100f * (14f / 6f) * (14f / 6f));
    due.bits("of a part that fits", notes(25, 12, 12).bad(1, 1), 100f * (19f / 3f) * (19f / 3f));
  }

  // Promise 12
  private static void sky() {
    EngravedLines x = notes(60, 2, 5);
    x.set(0, 2, 3);
    x.set(1, 2, -4);
    x.set(1, 4, 2);
    int[][] there = {{0, 4, -4}, {1, 4, -4}, {30, 5, -5}, {34, 5, -5}};
    for (int[] c : there) {
      due.is("upper side of CELL " + c[0], x.sky(0, 1, 0, c[0]), c[1]);
      due.is("lower side of CELL " + c[0], x.sky(0, 1, 1, c[0]), c[2]);
    }
    for (int cell : new int[] {2, 29, 35, 399}) {
      due.is("upper side of CELL " + cell, x.sky(0, 1, 0, cell), Due.NONE);
      due.is("lower side of CELL " + cell, x.sky(0, 1, 1, cell), Due.NONE);
    }
    due.is("told(2)", x.told(2), 8);
    due.is("another stretch", x.sky(1, 1, 0, 4), 5);
    due.is("side -1", x.sky(0, 1, -1, 0), Due.BEYOND);
    due.is("side 2", x.sky(0, 1, 2, 0), Due.BEYOND);
    due.is("CELL -1", x.sky(0, 1, 0, -1), Due.BEYOND);
    due.is("CELL 400", x.sky(0, 1, 0, 400), Due.BEYOND);
    EngravedLines full = fullOfWide();
    full.set(30, 2, 20);
    due.is("the last CELL", full.sky(0, 31, 0, 399), 21);
    due.is("its lower side", full.sky(0, 31, 1, 399), 13);
    due.is("CELL 389, the gap", full.sky(0, 31, 1, 389), Due.NONE);
    EngravedLines y = Due.read("r1 b");
    due.is("a REST", y.sky(0, 0, 0, 1), 3);
    due.is("a REST", y.sky(0, 0, 1, 1), -3);
    due.is("a BAR", y.sky(1, 1, 0, 0), 4);
    due.is("a BAR", y.sky(1, 1, 1, 0), -4);
  }

  // Promise 13
  private static void apart() {
    EngravedLines x = Due.read("r1 r1 n1+20 n1-12 r1''''' n1 r1");
    x.width(60);
    due.is("3 + 3 + 2", x.apart(0, 0, 1, 1), 8);
    due.is("8 at least", x.apart(2, 2, 1, 1), 8);
    due.is("TOP of the second", x.apart(1, 1, 2, 2), 21 + 3 + 2);
    due.is("BOTTOM of the first", x.apart(3, 3, 1, 1), 3 + 13 + 2);
    due.is("not the other way", x.apart(1, 1, 3, 3), 8);
    due.is("with ADORN", x.apart(1, 1, 4, 4), 8 + 3 + 2);
    due.is("with itself", x.apart(5, 5, 5, 5), 1 + 7 + 2);
    // The second ones lie in the same CELLS, too: in the first ones it is 10, there 13.
    due.is("the worst CELL counts", x.apart(5, 6, 3, 4), 8 + 3 + 2);
    // At 66 the second COLUMN of (0, 1) is in CELLS 38 and 39, that of (3, 4) in 33 and 34.
    x.width(66);
    x.set(0, 1, 2);
    due.is("CELLS of one alone don't matter", x.apart(0, 1, 3, 4), 8);
    x.set(1, 3, 1);
    x.set(3, 2, 20);
    due.is("the first CELLS do", x.apart(0, 1, 3, 4), 21 + 3 + 2);
  }

  private static void beyond() {
    EngravedLines x = Due.read("n1 n1 n1");
    int[][] wrong = {{-1, 0}, {0, 3}, {2, 1}, {3, 3}, {Integer.MIN_VALUE, Integer.MAX_VALUE},
        {Integer.MAX_VALUE, Integer.MIN_VALUE}, {0, Integer.MAX_VALUE}, {-1, -1}};
    int asked = 0;
    for (int[] s : wrong) {
      int a = s[0];
      int b = s[1];
      String ab = "(" + a + ", " + b + ")";
      due.is("force" + ab, x.force(a, b), Due.BEYOND);
      due.is("held" + ab, x.held(a, b), Due.BEYOND);
      due.is("at" + ab, x.at(a, b, a, 0), Due.BEYOND);
      due.is("bad" + ab, x.bad(a, b), Due.BEYOND);
      due.is("sky" + ab, x.sky(a, b, 0, 0), Due.BEYOND);
      due.is("apart" + ab, x.apart(a, b, 0, 1), Due.BEYOND);
      due.is("apart, second" + ab, x.apart(0, 1, a, b), Due.BEYOND);
      due.is("beam" + ab, x.beam(a, b, 0), Due.BEYOND);
      due.is("slur" + ab, x.slur(a, b, 0), Due.BEYOND);
      due.is("lays" + ab, x.lays(0, a, b), Due.BEYOND);
      asked += 10;
    }
    due.is("told(1)", x.told(1), asked);
  }
}
