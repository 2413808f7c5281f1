/** Promises 32 to 35: images, counts, what is told. */
public final class ImagesTest {
  private static final Due due = new Due();

  public static void main(String[] args) {
    image();
    imageKeepsNoMore();
    emptyImage();
    count();
    told();
    errorsChangeNothing();
    due.end();
  }

  // Promises 32, 33
  private static void image() {
    EngravedLines x = Due.read("n7+5'' r3");
    x.set(0, 3, 9);
    x.width(77);
    x.shelf(0, 0, 2);
    x.store(0, 1, 0);
    due.is("restore without an IMAGE", x.restore(), Due.NONE);
    due.is("image", x.image(), 2);
    due.is("nothing has changed", x.of(0, 2), 5);
    x.set(0, 0, 2);
    x.set(0, 1, 1);
    x.set(0, 2, -3);
    x.set(0, 3, 1);
    x.set(0, 4, 0);
    x.add(2, 1);
    x.width(300);
    x.shelf(0, 1, 12);
    x.shelf(2, 2, 1);
    x.store(2, 0, 2);
    for (int round = 0; round < 2; round++) {
      due.is("restore", x.restore(), 2);
      int[] parts = {0, 7, 5, 9, 2};
      for (int what = 0; what < 5; what++) {
        due.is("restored: of(0, " + what + ")", x.of(0, what), parts[what]);
      }
      due.is("restored: COLUMNS", x.count(0), 2);
      due.is("restored: WIDTH", x.count(1), 77);
      due.is("restored: a SIGN on a SHELF", x.fetch(0, 1, 2), 5);
      due.is("restored: its KIND", x.store(0, 0, 1), Due.KIND);
      due.is("restored: its places", x.fetch(0, 2, 2), Due.LOST);
      due.is("restored: an empty place", x.fetch(0, 0, 2), Due.NONE);
      due.is("restored: a missing SHELF", x.fetch(2, 0, 0), Due.LOST);
      // The IMAGE stays, whatever comes to what was restored.
      x.set(0, 1, 33);
      x.set(0, 2, 1);
      x.set(0, 3, 1);
      x.set(0, 4, 1);
      x.store(0, 1, 0);
      x.drop();
      x.width(20);
      x.shelf(1, 2, 3);
      x.shelf(2, 2, 1);
    }
    x.restore();
    x.drop();
    due.is("image in place of one ahead", x.image(), 1);
    x.add(0, 1);
    x.add(0, 1);
    due.is("restore of that", x.restore(), 1);
  }

  private static void imageKeepsNoMore() {
    EngravedLines x = Due.read("n1");
    x.sheet(0, 3, 1);
    x.put(0, 0, 5, 0);
    x.feed('b');
    x.image();
    x.put(0, 0, 6, 0);
    x.feed(' ');
    x.add(7, 7);
    x.restore();
    due.is("SHEETS aren't kept", x.bits(0, 0), 6);
    due.is("THE TAPE isn't kept", x.count(2), 2);
    due.is("what is told isn't kept", x.told(1), 1);
  }

  private static void emptyImage() {
    EngravedLines x = new EngravedLines();
    due.is("image of none", x.image(), 0);
    x.add(0, 5);
    due.is("restore of none", x.restore(), 0);
    due.is("count(0)", x.count(0), 0);
    due.is("told(2)", x.told(2), 0);
  }

  // Promise 34
  private static void count() {
    EngravedLines x = Due.read("n7 r5 b n64 b");
    x.set(2, 1, 50);
    x.shelf(0, 0, 12);
    x.shelf(1, 1, 1);
    x.shelf(2, 2, 3);
    x.store(0, 0, 0);
    x.store(0, 11, 3);
    x.store(0, 11, 0);
    x.store(1, 0, 1);
    x.store(2, 2, 2);
    x.feed(1);
    x.feed(2);
    x.feed(3);
    int[] counts = {5, 120, 3, 2, 76, 4};
    for (int what = 0; what < 6; what++) {
      due.is("count(" + what + ")", x.count(what), counts[what]);
    }
    due.is("count(-1)", x.count(-1), Due.BEYOND);
    due.is("count(6)", x.count(6), Due.BEYOND);
    due.is("count(MIN)", x.count(Integer.MIN_VALUE), Due.BEYOND);
    x.drop();
    x.drop();
    due.is("NOTES after drop", x.count(3), 1);
    due.is("DURATIONS after drop", x.count(4), 12);
    x.set(2, 0, 1);
    due.is("DURATIONS with the BAR's", x.count(4), 62);
    x.shelf(0, 0, 12);
    due.is("SIGNS on SHELVES", x.count(5), 2);
  }

  // Promise 35
  private static void told() {
    EngravedLines x = new EngravedLines();
    x.drop();
    x.drop();
    x.add(0, 1);
    x.beam(0, 0, 0);
    x.beam(0, 0, 2);
    x.beam(0, 0, 3);
    for (int i = 1; i < 32; i++) {
      x.add(2, 1);
    }
    x.add(0, 1);
    x.beam(0, 1, 0);
    x.sheet(0, 0, 1);
    x.rest(0, 0, 0);
    x.rest(0, 0, 0);
    x.bits(0, 1);
    x.cast(0, 1);
    x.cast(1, 0);
    x.bits(1, 0);
    x.bits(9, 0);
    int[] want = {0, 1, 2, 3, 1, 1, 2, 4};
    for (int k = 1; k <= 7; k++) {
      due.is("told(" + k + ")", x.told(k), want[k]);
    }
    due.is("told(0)", x.told(0), Due.BEYOND);
    due.is("told(8)", x.told(8), Due.BEYOND);
    due.is("told(-1)", x.told(-1), Due.BEYOND);
    due.is("told(MAX)", x.told(Integer.MAX_VALUE), Due.BEYOND);
    due.is("counted, too", x.told(1), 5);
    Due.feed(x, "x");
    x.music();
    due.is("a FAULT is no ERROR", x.told(1) + x.told(2) + x.told(7), 5 + 2 + 4);
  }

  private static void errorsChangeNothing() {
    EngravedLines x = Due.read("n7+5'' r3 b");
    x.shelf(0, 0, 2);
    x.store(0, 0, 0);
    x.sheet(0, 3, 2);
    x.put(0, 0, 5, 0);
    x.image();
    x.add(3, 1);
    x.set(0, 1, 0);
    x.width(0);
    x.feed(-1);
    x.shelf(0, 0, 13);
    x.store(0, 0, 1);
    x.store(0, 2, 0);
    x.comes(0, 1);
    x.sheet(0, 0, 41);
    x.sheet(0, 0, -1);
    x.put(0, 0, 6, 21);
    x.rest(0, 0, 1);
    x.lays(0, 0, 3);
    x.moved(0, 21, 9);
    int[] counts = {3, 120, 0, 1, 10, 1};
    for (int what = 0; what < 6; what++) {
      due.is("count(" + what + ") after ERRORS", x.count(what), counts[what]);
    }
    due.is("fetch after ERRORS", x.fetch(0, 0, 1), 7);
    due.is("bits after ERRORS", x.bits(0, 0), 5);
    due.is("of after ERRORS", x.of(0, 1), 7);
  }
}
