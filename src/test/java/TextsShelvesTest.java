/** Promises 20 to 25: the tape, music, shelves. */
public final class TextsShelvesTest {
  private static final Due due = new Due();

  public static void main(String[] args) {
    feed();
    texts();
    faults();
    takesThePlace();
    full();
    shelf();
    store();
    fetch();
    comes();
    due.end();
  }

  // Promise 20
  private static void feed() {
    EngravedLines x = new EngravedLines();
    due.is("feed(0)", x.feed(0), 1);
    due.is("feed(255)", x.feed(255), 2);
    due.is("feed(-1)", x.feed(-1), Due.BEYOND);
    due.is("feed(256)", x.feed(256), Due.BEYOND);
    due.is("feed(MIN)", x.feed(Integer.MIN_VALUE), Due.BEYOND);
    for (int i = 3; i <= 160; i++) {
      due.is("feed, byte " + i, x.feed(32), i);
    }
    due.is("feed, byte 161", x.feed(32), Due.FULL);
    due.is("feed, byte 161, none", x.feed(256), Due.BEYOND);
    due.is("count(2)", x.count(2), 160);
    due.is("music", x.music(), -10);
    due.is("feed again", x.feed(98), 1);
  }

  private static void isText(String text, int[]... signs) {
    EngravedLines x = Due.fed(text);
    due.is("music of " + text, x.music(), signs.length);
    due.is("count(0) of " + text, x.count(0), signs.length);
    due.is("count(2) of " + text, x.count(2), 0);
    for (int i = 0; i < signs.length; i++) {
      int[] parts = {signs[i][0], signs[i][1], signs[i][2], 2, signs[i][3]};
      for (int what = 0; what < 5; what++) {
        due.is(text + ": of(" + i + ", " + what + ")", x.of(i, what), parts[what]);
      }
    }
  }

  // Promise 21: KIND, DURATION, STEP, ADORN of each SIGN.
  private static void texts() {
    isText("b", new int[] {2, 1, 0, 0});
    isText("n1", new int[] {0, 1, 0, 0});
    isText("n64+20'''''''''", new int[] {0, 64, 20, 9});
    isText("n10-12", new int[] {0, 10, -12, 0});
    isText("n9+0 n9-1 n60-9", new int[] {0, 9, 0, 0}, new int[] {0, 9, -1, 0},
        new int[] {0, 60, -9, 0});
    isText("r64' b'' n19+9", new int[] {1, 64, 0, 1}, new int[] {2, 1, 0, 2},
        new int[] {0, 19, 9, 0});
    isText("n30+10 n7-10 n8-11 n8+19", new int[] {0, 30, 10, 0}, new int[] {0, 7, -10, 0},
        new int[] {0, 8, -11, 0}, new int[] {0, 8, 19, 0});
  }

  private static void isFault(String text, int place) {
    EngravedLines x = Due.read("n3-5 r2");
    x.width(99);
    Due.feed(x, text);
    due.is("music of '" + text + "'", x.music(), -10 - place);
    due.is("count(2) after '" + text + "'", x.count(2), 0);
    due.is("count(0) after '" + text + "'", x.count(0), 2);
    due.is("of(0, 2) after '" + text + "'", x.of(0, 2), -5);
    due.is("no ERROR of '" + text + "'", x.told(5) + x.told(1) + x.told(2), 0);
  }

  private static void faults() {
    isFault("", 0);
    isFault(" ", 0);
    isFault(" b", 0);
    isFault("x", 0);
    isFault("N4", 0);
    isFault("4", 0);
    isFault("b ", 2);
    isFault("b  b", 2);
    isFault("bb", 1);
    isFault("b1", 1);
    isFault("b+1", 1);
    isFault("b''''''''''", 10);
    isFault("b' 'b", 3);
    isFault("n", 1);
    isFault("r", 1);
    isFault("n ", 1);
    isFault("n'", 1);
    isFault("n+3", 1);
    isFault("n0", 1);
    isFault("r01", 1);
    isFault("n65", 2);
    isFault("n70", 2);
    isFault("n99", 2);
    isFault("n640", 3);
    isFault("n100", 3);
    isFault("r65 b", 2);
    isFault("r4+1", 2);
    isFault("r4-1", 2);
    isFault("n4+", 3);
    isFault("n4-", 3);
    isFault("n4+ b", 3);
    isFault("n4+-1", 3);
    isFault("n4+1+1", 4);
    isFault("n4+1-1", 4);
    isFault("n4-0", 3);
    isFault("n4-01", 3);
    isFault("n4+00", 4);
    isFault("n4+05", 4);
    isFault("n4+21", 4);
    isFault("n4+200", 5);
    isFault("n4-13", 4);
    isFault("n4-20", 4);
    isFault("n4-120", 5);
    isFault("n4'+1", 3);
    isFault("n4'4", 3);
    isFault("n4 n5 n6x", 8);
    isFault("n4 n5 n", 7);
    isFault("n4" + (char) 0, 2);
    isFault("n4" + (char) 160 + "b", 2);
    isFault("n4" + (char) 10, 2);
    isFault("n4/", 2);
    isFault("n4:", 2);
    isFault("n/", 1);
    isFault("n:", 1);
  }

  private static void takesThePlace() {
    EngravedLines x = Due.read("n1+3 n2 n3");
    x.set(0, 3, 9);
    x.set(0, 4, 9);
    x.width(50);
    x.shelf(1, 0, 2);
    x.store(1, 0, 0);
    Due.feed(x, "r5");
    due.is("music", x.music(), 1);
    due.is("count(0)", x.count(0), 1);
    due.is("KIND", x.of(0, 0), 1);
    due.is("STEP", x.of(0, 2), 0);
    due.is("WIDE", x.of(0, 3), 2);
    due.is("ADORN", x.of(0, 4), 0);
    due.is("WIDTH stays", x.count(1), 50);
    due.is("SHELVES stay", x.fetch(1, 0, 2), 3);
    due.is("music of an empty TAPE", x.music(), -10);
    due.is("COLUMNS stay", x.count(0), 1);
  }

  private static String bars(int n) {
    return "b" + " b".repeat(n - 1);
  }

  private static void full() {
    EngravedLines x = Due.fed(bars(32));
    due.is("32 BARS", x.music(), 32);
    EngravedLines y = Due.read("n9");
    Due.feed(y, bars(33));
    due.is("33 BARS", y.music(), Due.FULL);
    due.is("THE TAPE stays", y.count(2), 65);
    due.is("COLUMNS stay", y.of(0, 1), 9);
    due.is("count(0)", y.count(0), 1);
    due.is("33 BARS again", y.music(), Due.FULL);
    due.is("told(4)", y.told(4), 2);
    y.feed('x');
    due.is("33 BARS with a FAULT", y.music(), -10 - 65);
    due.is("THE TAPE is empty", y.count(2), 0);
    EngravedLines z = Due.fed(bars(80) + " ");
    due.is("80 BARS and a blank", z.music(), -10 - 160);
    z = Due.fed("n1+1 " + bars(77) + "'");
    due.is("159 bytes", z.count(2), 5 + 153 + 1);
    due.is("78 SIGNS", z.music(), Due.FULL);
  }

  // Promise 22
  private static void shelf() {
    EngravedLines x = Due.read("n1 r1 b");
    for (int shelf = 0; shelf < 3; shelf++) {
      for (int kind = 0; kind < 3; kind++) {
        due.is("shelf(" + shelf + ", " + kind + ", 12)", x.shelf(shelf, kind, 12), 1);
        due.is("store of its KIND", x.store(shelf, 11, kind), 1);
        due.is("fetch of its KIND", x.fetch(shelf, 11, 0), kind);
        due.is("store of another KIND", x.store(shelf, 11, (kind + 1) % 3), Due.KIND);
        due.is("an empty place", x.fetch(shelf, 10, 0), Due.NONE);
      }
    }
    due.is("count(5)", x.count(5), 3);
    due.is("shelf anew", x.shelf(0, 2, 12), 1);
    due.is("all its places are empty", x.fetch(0, 11, 0), Due.NONE);
    due.is("count(5)", x.count(5), 2);
    due.is("shelf(1, 1, 0)", x.shelf(1, 1, 0), 1);
    due.is("no place", x.fetch(1, 0, 0), Due.LOST);
    due.is("shelf(2, -1, 3)", x.shelf(2, -1, 3), 1);
    due.is("missing", x.fetch(2, 0, 0), Due.LOST);
    due.is("count(5)", x.count(5), 0);
    int[][] wrong = {{-1, 0, 1}, {3, 0, 1}, {0, -2, 1}, {0, 3, 1}, {0, 0, -1}, {0, 0, 13},
        {0, -1, -1}, {0, -1, 13}, {Integer.MAX_VALUE, 0, 1}, {0, Integer.MIN_VALUE, 0}};
    x.shelf(0, 0, 12);
    x.store(0, 0, 0);
    for (int[] w : wrong) {
      due.is("shelf(" + w[0] + ", " + w[1] + ", " + w[2] + ")", x.shelf(w[0], w[1], w[2]),
          Due.BEYOND);
    }
    due.is("nothing has changed", x.fetch(0, 0, 0), 0);
    due.is("told(1)", x.told(1), wrong.length);
  }

  // Promise 23
  private static void store() {
    EngravedLines x = Due.read("n7+4'' r3");
    x.set(0, 3, 11);
    x.shelf(0, 0, 3);
    due.is("store", x.store(0, 2, 0), 1);
    x.set(0, 1, 8);
    x.set(0, 2, 5);
    x.set(0, 4, 0);
    due.is("as it was: DURATION", x.fetch(0, 2, 1), 7);
    due.is("as it was: STEP", x.fetch(0, 2, 2), 4);
    due.is("as it was: TOP", x.fetch(0, 2, 3), 7);
    x.store(0, 2, 0);
    due.is("in place of it", x.fetch(0, 2, 1), 8);
    due.is("count(5)", x.count(5), 1);
    due.is("shelf -1", x.store(-1, 0, 0), Due.BEYOND);
    due.is("shelf 3", x.store(3, 0, 0), Due.BEYOND);
    due.is("COLUMN 2", x.store(0, 0, 2), Due.BEYOND);
    due.is("COLUMN -1", x.store(1, 0, -1), Due.BEYOND);
    due.is("a missing SHELF", x.store(1, 0, 0), Due.LOST);
    due.is("place -1", x.store(0, -1, 0), Due.LOST);
    due.is("place 3", x.store(0, 3, 1), Due.LOST);
    due.is("place MIN", x.store(0, Integer.MIN_VALUE, 0), Due.LOST);
    due.is("place MAX", x.store(0, Integer.MAX_VALUE, 0), Due.LOST);
    due.is("another KIND", x.store(0, 0, 1), Due.KIND);
    due.is("place 0 is empty", x.fetch(0, 0, 0), Due.NONE);
    // Neighbours keep what they have.
    x.shelf(1, 1, 12);
    x.store(1, 0, 1);
    due.is("shelf 0 keeps", x.fetch(0, 2, 1), 8);
    due.is("shelf 1 keeps", x.fetch(1, 0, 1), 3);
  }

  // Promise 24
  private static void fetch() {
    EngravedLines x = Due.read("n7-4'' r3' b'''");
    for (int kind = 0; kind < 3; kind++) {
      x.shelf(kind, kind, 2);
      x.store(kind, 1, kind);
    }
    int[][] parts = {{0, 7, -4, 5}, {1, 3, 0, 4}, {2, 1, 0, 7}};
    for (int kind = 0; kind < 3; kind++) {
      for (int what = 0; what < 4; what++) {
        due.is("fetch(" + kind + ", 1, " + what + ")", x.fetch(kind, 1, what), parts[kind][what]);
      }
    }
    due.is("fetch(-1, 0, 0)", x.fetch(-1, 0, 0), Due.BEYOND);
    due.is("fetch(3, 0, 0)", x.fetch(3, 0, 0), Due.BEYOND);
    due.is("fetch(0, 1, -1)", x.fetch(0, 1, -1), Due.BEYOND);
    due.is("fetch(0, 9, 4)", x.fetch(0, 9, 4), Due.BEYOND);
    due.is("fetch(0, 2, 0)", x.fetch(0, 2, 0), Due.LOST);
    due.is("fetch(0, -1, 0)", x.fetch(0, -1, 0), Due.LOST);
    due.is("fetch(0, MAX, 0)", x.fetch(0, Integer.MAX_VALUE, 0), Due.LOST);
    due.is("fetch(0, 0, 0)", x.fetch(0, 0, 0), Due.NONE);
    x.shelf(0, -1, 2);
    due.is("fetch of a missing one", x.fetch(0, 1, 0), Due.LOST);
    due.is("told(7)", x.told(7), 4);
  }

  // Promise 25
  private static void comes() {
    EngravedLines x = Due.read("n7-4''");
    x.set(0, 3, 9);
    x.shelf(2, 0, 2);
    x.store(2, 1, 0);
    x.drop();
    due.is("comes", x.comes(2, 1), 0);
    int[] parts = {0, 7, -4, 9, 2};
    for (int what = 0; what < 5; what++) {
      due.is("came: of(0, " + what + ")", x.of(0, what), parts[what]);
    }
    due.is("the shelf keeps it", x.count(5), 1);
    x.set(0, 1, 1);
    due.is("the shelf keeps it as it was", x.fetch(2, 1, 1), 7);
    due.is("comes again", x.comes(2, 1), 1);
    due.is("comes(-1, 0)", x.comes(-1, 0), Due.BEYOND);
    due.is("comes(3, 0)", x.comes(3, 0), Due.BEYOND);
    due.is("comes(0, 0)", x.comes(0, 0), Due.LOST);
    due.is("comes(2, 2)", x.comes(2, 2), Due.LOST);
    due.is("comes(2, -1)", x.comes(2, -1), Due.LOST);
    due.is("comes(2, 0)", x.comes(2, 0), Due.NONE);
    for (int i = 2; i < 32; i++) {
      due.is("comes, " + i, x.comes(2, 1), i);
    }
    due.is("the 33rd", x.comes(2, 1), Due.FULL);
    due.is("the 33rd, of an empty place", x.comes(2, 0), Due.NONE);
    due.is("count(0)", x.count(0), 32);
    due.is("told(4)", x.told(4), 1);
  }
}
