/** Promises 1 to 7: a new object, columns, springs, the line's width. */
public final class ColumnsTest {
  private static final Due due = new Due();

  public static void main(String[] args) {
    newObject();
    add();
    drop();
    set();
    of();
    spring();
    width();
    due.end();
  }

  // Promise 1
  private static void newObject() {
    EngravedLines x = new EngravedLines();
    int[] counts = {0, 120, 0, 0, 0, 0};
    for (int what = 0; what < counts.length; what++) {
      due.is("new: count(" + what + ")", x.count(what), counts[what]);
    }
    for (int k = 1; k <= 7; k++) {
      due.is("new: told(" + k + ")", x.told(k), 0);
    }
    due.is("new: lines()", x.lines(), 0);
    due.is("new: total()", x.total(), 0);
    for (int shelf = 0; shelf < 3; shelf++) {
      due.is("new: fetch of a shelf", x.fetch(shelf, 0, 0), Due.LOST);
    }
    for (int sheet = 0; sheet < 4; sheet++) {
      due.is("new: bits of a sheet", x.bits(sheet, 0), Due.LONG_LOST);
    }
    due.is("new: restore()", x.restore(), Due.NONE);
    EngravedLines other = new EngravedLines();
    x.add(0, 1);
    due.is("another object", other.count(0), 0);
  }

  // Promise 2
  private static void add() {
    EngravedLines x = new EngravedLines();
    due.is("add(0, 1)", x.add(0, 1), 0);
    due.is("add(1, 64)", x.add(1, 64), 1);
    due.is("add(2, 7)", x.add(2, 7), 2);
    int[][] parts = {{0, 1, 0, 2, 0}, {1, 64, 0, 2, 0}, {2, 7, 0, 2, 0}};
    for (int i = 0; i < 3; i++) {
      for (int what = 0; what < 5; what++) {
        due.is("added: of(" + i + ", " + what + ")", x.of(i, what), parts[i][what]);
      }
    }
    due.is("add(-1, 1)", x.add(-1, 1), Due.BEYOND);
    due.is("add(3, 1)", x.add(3, 1), Due.BEYOND);
    due.is("add(0, 0)", x.add(0, 0), Due.BEYOND);
    due.is("add(0, 65)", x.add(0, 65), Due.BEYOND);
    due.is("add(MIN, MAX)", x.add(Integer.MIN_VALUE, Integer.MAX_VALUE), Due.BEYOND);
    due.is("count(0)", x.count(0), 3);
    for (int i = 3; i < 32; i++) {
      due.is("add " + i, x.add(0, 1), i);
    }
    due.is("the 33rd", x.add(0, 1), Due.FULL);
    due.is("the 33rd, of no KIND", x.add(3, 1), Due.BEYOND);
    due.is("the 33rd, of no DURATION", x.add(0, 0), Due.BEYOND);
    due.is("count(0)", x.count(0), 32);
    // What was dropped is forgotten: a new one is as at first.
    x.set(31, 2, 5);
    x.set(31, 3, 9);
    x.set(31, 4, 9);
    x.drop();
    x.add(1, 3);
    due.is("STEP again", x.of(31, 2), 0);
    due.is("WIDE again", x.of(31, 3), 2);
    due.is("ADORN again", x.of(31, 4), 0);
  }

  // Promise 3
  private static void drop() {
    EngravedLines x = new EngravedLines();
    due.is("drop of none", x.drop(), Due.NONE);
    x.add(0, 4);
    x.add(1, 8);
    x.shelf(0, 1, 1);
    x.store(0, 0, 1);
    due.is("drop", x.drop(), 1);
    due.is("of the dropped", x.of(1, 0), Due.BEYOND);
    due.is("of the other", x.of(0, 1), 4);
    due.is("the shelf keeps it", x.fetch(0, 0, 1), 8);
    due.is("drop", x.drop(), 0);
    due.is("drop", x.drop(), Due.NONE);
    due.is("told(2)", x.told(2), 2);
  }

  // Promise 4
  private static void set() {
    EngravedLines x = new EngravedLines();
    x.add(0, 4);
    x.add(1, 9);
    int[] first = {1, 9, 0, 2, 0};
    int[] least = {0, 1, -12, 1, 0};
    int[] most = {2, 64, 20, 12, 9};
    for (int what = 0; what < 5; what++) {
      String call = "set(1, " + what + ", ..)";
      due.is(call, x.set(1, what, least[what]), first[what]);
      due.is(call, x.set(1, what, most[what]), least[what]);
      due.is(call, x.set(1, what, least[what] - 1), Due.BEYOND);
      due.is(call, x.set(1, what, most[what] + 1), Due.BEYOND);
      due.is(call + " stands", x.of(1, what), most[what]);
      due.is(call + " leaves the other", x.of(0, what), new int[] {0, 4, 0, 2, 0}[what]);
    }
    due.is("set(0, -1, 1)", x.set(0, -1, 1), Due.BEYOND);
    due.is("set(0, 5, 1)", x.set(0, 5, 1), Due.BEYOND);
    due.is("set(-1, 1, 1)", x.set(-1, 1, 1), Due.BEYOND);
    due.is("set(2, 1, 1)", x.set(2, 1, 1), Due.BEYOND);
    due.is("set(MAX, ..)", x.set(Integer.MAX_VALUE, 1, 1), Due.BEYOND);
    due.is("set(0, MIN, 1)", x.set(0, Integer.MIN_VALUE, 1), Due.BEYOND);
    // Another KIND leaves the other parts.
    x.set(0, 2, -3);
    x.set(0, 0, 2);
    x.set(0, 0, 0);
    due.is("STEP through a BAR", x.of(0, 2), -3);
    due.is("DURATION through a BAR", x.of(0, 1), 4);
  }

  // Promise 5
  private static void of() {
    EngravedLines x = new EngravedLines();
    x.add(0, 1);
    int[][] notes = {{0, 1, -7}, {1, 2, -6}, {20, 21, 13}, {-1, 6, -2}, {-12, -5, -13}};
    for (int[] n : notes) {
      x.set(0, 2, n[0]);
      due.is("TOP of a NOTE of STEP " + n[0], x.of(0, 5), n[1]);
      due.is("BOTTOM of a NOTE of STEP " + n[0], x.of(0, 6), n[2]);
    }
    x.set(0, 4, 9);
    due.is("TOP with ADORN", x.of(0, 5), 4);
    due.is("BOTTOM with ADORN", x.of(0, 6), -13);
    x.set(0, 0, 1);
    due.is("TOP of a REST with ADORN", x.of(0, 5), 12);
    due.is("BOTTOM of a REST", x.of(0, 6), -3);
    x.set(0, 0, 2);
    due.is("TOP of a BAR with ADORN", x.of(0, 5), 13);
    due.is("BOTTOM of a BAR", x.of(0, 6), -4);
    x.set(0, 4, 0);
    due.is("TOP of a BAR", x.of(0, 5), 4);
    x.set(0, 0, 1);
    due.is("TOP of a REST", x.of(0, 5), 3);
    due.is("of(0, -1)", x.of(0, -1), Due.BEYOND);
    due.is("of(0, 7)", x.of(0, 7), Due.BEYOND);
    due.is("of(1, 0)", x.of(1, 0), Due.BEYOND);
    due.is("of(-1, 0)", x.of(-1, 0), Due.BEYOND);
    due.is("of(MIN, MIN)", x.of(Integer.MIN_VALUE, Integer.MIN_VALUE), Due.BEYOND);
  }

  // Promise 6
  private static void spring() {
    EngravedLines x = new EngravedLines();
    x.add(0, 1);
    float[][] ideals = {{1, 6}, {2, 9}, {3, 10.5f}, {4, 12}, {5, 12.75f}, {7, 14.25f}, {8, 15},
        {15, 17.625f}, {16, 18}, {31, 20.8125f}, {32, 21}, {63, 23.90625f}, {64, 24}};
    for (float[] d : ideals) {
      x.set(0, 1, (int) d[0]);
      due.bits("IDEAL of DURATION " + d[0], x.spring(0, 0), d[1]);
      due.bits("FLEX of DURATION " + d[0], x.spring(0, 1), d[1] / 2);
    }
    x.set(0, 0, 1);
    due.bits("IDEAL of a REST", x.spring(0, 0), 24);
    due.bits("FLEX of a REST", x.spring(0, 1), 12);
    x.set(0, 0, 2);
    due.bits("IDEAL of a BAR", x.spring(0, 0), 3);
    due.bits("FLEX of a BAR", x.spring(0, 1), 0.25f);
    due.bits("ROD", x.spring(0, 2), 3);
    x.set(0, 3, 12);
    due.bits("ROD of WIDE 12", x.spring(0, 2), 13);
    x.set(0, 3, 1);
    due.bits("ROD of WIDE 1", x.spring(0, 2), 2);
    due.is("spring(0, 3)", x.spring(0, 3), Due.BEYOND);
    due.is("spring(0, -1)", x.spring(0, -1), Due.BEYOND);
    due.is("spring(1, 0)", x.spring(1, 0), Due.BEYOND);
    due.is("spring(-1, 0)", x.spring(-1, 0), Due.BEYOND);
  }

  // Promise 7
  private static void width() {
    EngravedLines x = new EngravedLines();
    due.is("width(20)", x.width(20), 120);
    due.is("width(380)", x.width(380), 20);
    due.is("width(19)", x.width(19), Due.BEYOND);
    due.is("width(381)", x.width(381), Due.BEYOND);
    due.is("width(MIN)", x.width(Integer.MIN_VALUE), Due.BEYOND);
    due.is("count(1)", x.count(1), 380);
    due.is("width(21)", x.width(21), 380);
    due.is("told(1)", x.told(1), 3);
  }
}
