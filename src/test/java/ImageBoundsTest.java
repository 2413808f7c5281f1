/** Promises 32 to 35 at their bounds: no IMAGE, images in place of others, counts of all and none. */
public final class ImageBoundsTest {
  private static final Due due = new Due();

  public static void main(String[] args) {
    noImage();
    imageOfNothing();
    imageOfAll();
    inPlaceOfOneAhead();
    imageStays();
    counts();
    countsOfKinds();
    told();
    due.end();
  }

  /** "NONE: there is none", and none comes of asking. */
  private static void noImage() {
    EngravedLines x = Due.read("n7");
    due.is("restore", x.restore(), Due.NONE);
    due.is("restore again", x.restore(), Due.NONE);
    due.is("COLUMNS stay", x.count(0), 1);
    due.is("image", x.image(), 1);
    due.is("restore now", x.restore(), 1);
    EngravedLines other = new EngravedLines();
    due.is("an IMAGE of another object is none", other.restore(), Due.NONE);
  }

  private static void imageOfNothing() {
    EngravedLines x = new EngravedLines();
    due.is("image of no COLUMNS", x.image(), 0);
    Due.feed(x, "n64 b");
    x.music();
    x.width(20);
    x.shelf(0, 2, 12);
    x.store(0, 11, 1);
    due.is("restore of no COLUMNS", x.restore(), 0);
    due.is("count(0)", x.count(0), 0);
    due.is("count(1)", x.count(1), 120);
    due.is("count(5)", x.count(5), 0);
    due.is("the SHELF is missing", x.fetch(0, 11, 0), Due.LOST);
    due.is("lines()", x.lines(), 0);
    due.is("restore is no ERROR", x.told(2), 0);
  }

  /** 32 COLUMNS, 36 SIGNS on SHELVES, the greatest WIDTH. */
  private static void imageOfAll() {
    EngravedLines x = new EngravedLines();
    x.width(380);
    for (int i = 0; i < 32; i++) {
      x.add(0, 1 + i);
    }
    x.set(31, 2, 20);
    x.set(31, 3, 12);
    x.set(31, 4, 9);
    for (int k = 0; k < 36; k++) {
      if (k % 12 == 0) {
        x.shelf(k / 12, 0, 12);
      }
      x.store(k / 12, k % 12, Math.min(k, 31));
    }
    due.is("image", x.image(), 32);
    for (int i = 0; i < 32; i++) {
      x.drop();
    }
    for (int shelf = 0; shelf < 3; shelf++) {
      x.shelf(shelf, shelf - 1, 0);
    }
    x.width(20);
    due.is("restore", x.restore(), 32);
    due.is("WIDTH", x.count(1), 380);
    due.is("SIGNS on SHELVES", x.count(5), 36);
    due.is("DURATIONS", x.count(4), 32 * 33 / 2);
    due.is("DURATION of the first", x.of(0, 1), 1);
    int[] last = {0, 32, 20, 12, 9};
    for (int what = 0; what < 5; what++) {
      due.is("of(31, " + what + ")", x.of(31, what), last[what]);
    }
    for (int k = 0; k < 36; k++) {
      due.is("DURATION on a SHELF", x.fetch(k / 12, k % 12, 1), Math.min(k, 31) + 1);
    }
    due.is("there is no room", x.comes(2, 11), Due.FULL);
    x.drop();
    due.is("comes", x.comes(2, 11), 31);
    due.is("WIDE of that", x.of(31, 3), 12);
    due.is("ADORN of that", x.of(31, 4), 9);
  }

  /** "in place of one ahead". */
  private static void inPlaceOfOneAhead() {
    EngravedLines x = Due.read("n1 n2 n3");
    x.shelf(0, 0, 1);
    x.store(0, 0, 2);
    due.is("image", x.image(), 3);
    x.drop();
    x.drop();
    x.shelf(0, -1, 0);
    x.shelf(1, 1, 2);
    x.width(30);
    due.is("image in its place", x.image(), 1);
    x.set(0, 1, 64);
    x.width(31);
    due.is("restore", x.restore(), 1);
    due.is("WIDTH", x.count(1), 30);
    due.is("DURATION", x.of(0, 1), 1);
    due.is("COLUMN 1", x.of(1, 1), Due.BEYOND);
    due.is("SHELF 0", x.fetch(0, 0, 0), Due.LOST);
    due.is("SHELF 1", x.fetch(1, 1, 0), Due.NONE);
    due.is("image of what was restored", x.image(), 1);
    due.is("restore of that", x.restore(), 1);
  }

  /** "All that is as the IMAGE has it, which stays": no act after restore() comes to it. */
  private static void imageStays() {
    EngravedLines x = Due.read("n5-5' r6 b");
    x.shelf(0, 0, 2);
    x.store(0, 0, 0);
    x.image();
    for (int round = 0; round < 9; round++) {
      due.is("restore", x.restore(), 3);
      due.is("DURATION", x.of(0, 1), 5);
      due.is("STEP", x.of(0, 2), -5);
      due.is("WIDE", x.of(0, 3), 2);
      due.is("KIND", x.of(2, 0), 2);
      due.is("WIDTH", x.count(1), 120);
      due.is("SIGNS on SHELVES", x.count(5), 1);
      due.is("STEP on a SHELF", x.fetch(0, 0, 2), -5);
      due.is("lines()", x.lines(), 1);
      change(x, round);
    }
  }

  private static void change(EngravedLines x, int way) {
    switch (way) {
      case 0:
        x.set(0, 1, 6);
        break;
      case 1:
        x.set(0, 2, 6);
        x.set(0, 3, 6);
        break;
      case 2:
        x.set(2, 0, 1);
        break;
      case 3:
        x.width(20);
        break;
      case 4:
        x.store(0, 1, 0);
        break;
      case 5:
        x.shelf(0, 2, 3);
        break;
      case 6:
        Due.feed(x, "b b");
        x.music();
        break;
      default:
        x.set(0, 2, 9);
        x.store(0, 0, 0);
        x.drop();
    }
  }

  /** Each count from none to all that there can be. */
  private static void counts() {
    EngravedLines x = new EngravedLines();
    for (int i = 0; i <= 32; i++) {
      due.is("COLUMNS", x.count(0), i);
      due.is("NOTES", x.count(3), i);
      due.is("DURATIONS", x.count(4), 64 * i);
      x.add(0, 64);
    }
    due.is("COLUMNS", x.count(0), 32);
    for (int n = 0; n <= 160; n++) {
      due.is("bytes", x.count(2), n);
      x.feed(n);
    }
    due.is("bytes", x.count(2), 160);
  }

  /** "3 NOTES, 4 DURATION of NOTES and RESTS together": of BARS none. */
  private static void countsOfKinds() {
    EngravedLines x = new EngravedLines();
    int[] kinds = {2, 0, 1, 0, 2, 1, 1};
    int[] notes = {0, 1, 1, 2, 2, 2, 2};
    int[] durations = {0, 10, 20, 30, 30, 40, 50};
    for (int i = 0; i < 7; i++) {
      x.add(kinds[i], 10);
      due.is("NOTES of " + (i + 1), x.count(3), notes[i]);
      due.is("DURATIONS of " + (i + 1), x.count(4), durations[i]);
    }
    x.set(6, 0, 2);
    due.is("a REST becomes a BAR", x.count(4), 40);
    x.set(0, 0, 0);
    due.is("a BAR becomes a NOTE", x.count(4), 50);
    due.is("NOTES", x.count(3), 3);
  }

  /** "BEYOND: another k (counted, too)". */
  private static void told() {
    EngravedLines x = new EngravedLines();
    int refused = 0;
    for (int k = -4; k <= 12; k++) {
      boolean isThere = k >= 1 && k <= 7;
      due.is("told(" + k + ")", x.told(k), !isThere ? Due.BEYOND : k == 1 ? refused : 0);
      refused += isThere ? 0 : 1;
    }
    due.is("told(1)", x.told(1), refused);
    due.is("told(1) is none itself", x.told(1), refused);
  }
}
