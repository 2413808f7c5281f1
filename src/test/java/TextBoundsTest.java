/** Promises 20 to 25 at their bounds: every byte, every number, 160 bytes, 32 SIGNS, full SHELVES. */
public final class TextBoundsTest {
  private static final Due due = new Due();

  public static void main(String[] args) {
    bytes();
    oneByte();
    byteBehindBar();
    byteBehindDuration();
    byteBehindStep();
    durations();
    stepsAbove();
    stepsBelow();
    noughtAhead();
    adorns();
    endsTooEarly();
    fullTape();
    signs();
    shelves();
    placesOfShelves();
    storesWhatItIsNow();
    comesOnWhatWasThere();
    comesUpTo32();
    due.end();
  }

  /** "(no ERROR; nothing else changes)", but THE TAPE is empty. */
  private static void isFault(String text, int place) {
    EngravedLines x = Due.read("n3-5'");
    Due.feed(x, text);
    due.is("music of '" + text + "'", x.music(), -10 - place);
    due.is("bytes after '" + text + "'", x.count(2), 0);
    due.is("COLUMNS after '" + text + "'", x.count(0), 1);
    due.is("STEP after '" + text + "'", x.of(0, 2), -5);
    for (int k = 1; k <= 7; k++) {
      due.is("told(" + k + ") after '" + text + "'", x.told(k), 0);
    }
  }

  private static void isSign(String text, int... parts) {
    EngravedLines x = Due.read("r2 r2");
    x.set(0, 3, 9);
    Due.feed(x, text);
    due.is("music of '" + text + "'", x.music(), 1);
    due.is("bytes after '" + text + "'", x.count(2), 0);
    due.is("COLUMNS after '" + text + "'", x.count(0), 1);
    int[] wanted = {parts[0], parts[1], parts[2], 2, parts[3]};
    for (int what = 0; what < 5; what++) {
      due.is("of(0, " + what + ") of '" + text + "'", x.of(0, what), wanted[what]);
    }
  }

  /** "A byte (0 to 255) comes to THE TAPE", which "has at most 160 bytes". */
  private static void bytes() {
    EngravedLines x = new EngravedLines();
    int n = 0;
    for (int b = -3; b <= 258; b++) {
      boolean fits = b >= 0 && b <= 255;
      n += fits && n < 160 ? 1 : 0;
      boolean isFull = fits && b >= 160;
      due.is("feed(" + b + ")", x.feed(b), isFull ? Due.FULL : fits ? n : Due.BEYOND);
      if (isFull || !fits) {
        due.is("count(2) after feed(" + b + ")", x.count(2), n);
      }
    }
    due.is("told(1)", x.told(1), 6);
    due.is("told(4)", x.told(4), 96);
  }

  private static void oneByte() {
    for (int b = 0; b <= 255; b++) {
      String text = "" + (char) b;
      if (b == 'b') {
        isSign(text, 2, 1, 0, 0);
      } else {
        isFault(text, b == 'n' || b == 'r' ? 1 : 0);
      }
    }
  }

  private static void byteBehindBar() {
    for (int b = 0; b <= 255; b++) {
      String text = "b" + (char) b;
      if (b == 39) {
        isSign(text, 2, 1, 0, 1);
      } else {
        isFault(text, b == 32 ? 2 : 1);
      }
    }
  }

  private static void byteBehindDuration() {
    for (int b = 0; b <= 255; b++) {
      boolean isDigit = b >= '0' && b <= '9';
      String note = "n6" + (char) b;
      String rest = "r6" + (char) b;
      if (isDigit && b <= '4') {
        isSign(note, 0, 60 + b - '0', 0, 0);
        isSign(rest, 1, 60 + b - '0', 0, 0);
      } else if (b == 39) {
        isSign(note, 0, 6, 0, 1);
        isSign(rest, 1, 6, 0, 1);
      } else {
        isFault(note, b == '+' || b == '-' || b == 32 ? 3 : 2);
        isFault(rest, b == 32 ? 3 : 2);
      }
    }
  }

  private static void byteBehindStep() {
    for (int b = 0; b <= 255; b++) {
      boolean isDigit = b >= '0' && b <= '9';
      String above = "n1+1" + (char) b;
      String below = "n1-1" + (char) b;
      if (isDigit) {
        isSign(above, 0, 1, 10 + b - '0', 0);
        if (b <= '2') {
          isSign(below, 0, 1, -10 - (b - '0'), 0);
        } else {
          isFault(below, 4);
        }
      } else if (b == 39) {
        isSign(above, 0, 1, 1, 1);
        isSign(below, 0, 1, -1, 1);
      } else {
        isFault(above, b == 32 ? 5 : 4);
        isFault(below, b == 32 ? 5 : 4);
      }
    }
  }

  /** "a number (1 to 64; no 0 ahead)", "(of a number that is too large its last digit)". */
  private static void durations() {
    for (int n = 0; n <= 199; n++) {
      if (n >= 1 && n <= 64) {
        isSign("n" + n, 0, n, 0, 0);
        isSign("r" + n, 1, n, 0, 0);
      } else {
        int place = ("" + n).length();
        isFault("n" + n, place);
        isFault("r" + n, place);
      }
    }
    isFault("b n640", 5);
    isFault("b n65 b", 4);
  }

  /** "0 to 20 behind +". */
  private static void stepsAbove() {
    for (int n = 0; n <= 209; n++) {
      String text = "n64+" + n;
      if (n <= 20) {
        isSign(text, 0, 64, n, 0);
      } else {
        isFault(text, text.length() - 1);
      }
    }
  }

  /** "1 to 12 behind -". */
  private static void stepsBelow() {
    for (int n = 0; n <= 129; n++) {
      String text = "n64-" + n;
      if (n >= 1 && n <= 12) {
        isSign(text, 0, 64, -n, 0);
      } else {
        isFault(text, text.length() - 1);
      }
    }
  }

  /** "(.. no 0 ahead)", "no 0 ahead of another digit". */
  private static void noughtAhead() {
    for (int digit = 0; digit <= 9; digit++) {
      isFault("n0" + digit, 1);
      isFault("r0" + digit, 1);
      isFault("n1+0" + digit, 4);
      isFault("n1-0" + digit, 3);
    }
    isSign("n1+0'", 0, 1, 0, 1);
    isFault("n1+00", 4);
  }

  /** "as many as ADORN (9 at most)". */
  private static void adorns() {
    String[] heads = {"n1", "n64+0", "n10+20", "n2-12", "r64", "b"};
    int[][] parts = {{0, 1, 0}, {0, 64, 0}, {0, 10, 20}, {0, 2, -12}, {1, 64, 0}, {2, 1, 0}};
    for (int i = 0; i < heads.length; i++) {
      for (int adorn = 0; adorn <= 12; adorn++) {
        String text = heads[i] + "'".repeat(adorn);
        if (adorn <= 9) {
          isSign(text, parts[i][0], parts[i][1], parts[i][2], adorn);
        } else {
          isFault(text, heads[i].length() + 9);
        }
      }
      isFault(heads[i] + "'1", heads[i].length() + 1);
      isFault(heads[i] + "'+1", heads[i].length() + 1);
      isFault(heads[i] + "' '", heads[i].length() + 2);
    }
  }

  /** "how many there are, if it ends too early". */
  private static void endsTooEarly() {
    String[] texts = {"", "n", "r", "n1+", "n1-", "b ", "n1 ", "r1' ", "b n", "b r", "b n9+",
        "n64+20 n64-"};
    for (String text : texts) {
      isFault(text, text.length());
    }
  }

  /** A TEXT of 160 bytes, and ones that end too early or have a FAULT at the last of them. */
  private static void fullTape() {
    String fifteen = "n64+20'''''''''";
    String most = (fifteen + " ").repeat(9) + "n64+20'' n64+20'";
    due.is("bytes", most.length(), 160);
    EngravedLines x = Due.fed(most);
    due.is("count(2)", x.count(2), 160);
    due.is("music of 160 bytes", x.music(), 11);
    due.is("ADORN of the last", x.of(10, 4), 1);
    due.is("STEP of the last", x.of(10, 2), 20);
    String ahead = most.substring(0, 159);
    isFault(ahead + " ", 160);
    isFault(ahead + "+", 159);
    EngravedLines y = Due.fed(ahead);
    due.is("music of 159 bytes", y.music(), 11);
    due.is("ADORN of the last", y.of(10, 4), 0);
    due.is("feed behind it", y.feed('b'), 1);
    due.is("music of that", y.music(), 1);
  }

  /** "FULL (THE TAPE stays): it has more than 32". */
  private static void signs() {
    for (int n = 1; n <= 80; n++) {
      EngravedLines x = Due.fed("b" + " b".repeat(n - 1));
      int bytes = 2 * n - 1;
      due.is("music of " + n, x.music(), n <= 32 ? n : Due.FULL);
      due.is("COLUMNS of " + n, x.count(0), n <= 32 ? n : 0);
      due.is("bytes left of " + n, x.count(2), n <= 32 ? 0 : bytes);
      due.is("music again of " + n, x.music(), n <= 32 ? -10 : Due.FULL);
      if (n > 32 && bytes < 160) {
        due.is("the next byte", x.feed('\''), bytes + 1);
        due.is("music of more bytes", x.music(), Due.FULL);
      }
    }
  }

  /** "a row of n (0 to 12) places"; "kind -1: it is missing"; "(also with kind -1)". */
  private static void shelves() {
    for (int shelf = -2; shelf <= 4; shelf++) {
      for (int kind = -3; kind <= 4; kind++) {
        EngravedLines x = Due.read("n1 r1 b");
        for (int n = -2; n <= 14; n++) {
          boolean fits = shelf >= 0 && shelf <= 2 && kind >= -1 && kind <= 2 && n >= 0 && n <= 12;
          due.is("shelf(" + shelf + ", " + kind + ", " + n + ")", x.shelf(shelf, kind, n),
              fits ? 1 : Due.BEYOND);
          if (fits && kind >= 0) {
            due.is("store behind the last place", x.store(shelf, n, kind), Due.LOST);
            due.is("store at the last place", x.store(shelf, n - 1, kind), n == 0 ? Due.LOST : 1);
            due.is("SIGNS on SHELVES", x.count(5), n == 0 ? 0 : 1);
          } else if (fits) {
            due.is("store on a missing one", x.store(shelf, 0, 0), Due.LOST);
            due.is("fetch of a missing one", x.fetch(shelf, 0, 0), Due.LOST);
            due.is("comes of a missing one", x.comes(shelf, 0), Due.LOST);
          }
        }
      }
    }
  }

  /** Each place of each SHELF holds a SIGN of its own. */
  private static void placesOfShelves() {
    EngravedLines x = new EngravedLines();
    for (int shelf = 0; shelf < 3; shelf++) {
      x.shelf(shelf, 1, 12);
    }
    for (int k = 0; k < 36; k++) {
      x.add(1, 1 + k);
      due.is("store " + k, x.store(k / 12, k % 12, 0), 1);
      due.is("SIGNS on SHELVES", x.count(5), 1 + k);
      x.drop();
    }
    for (int k = 0; k < 36; k++) {
      due.is("fetch " + k, x.fetch(k / 12, k % 12, 1), 1 + k);
    }
    for (int shelf = 0; shelf < 3; shelf++) {
      due.is("place -1", x.fetch(shelf, -1, 1), Due.LOST);
      due.is("place 12", x.fetch(shelf, 12, 1), Due.LOST);
    }
    x.shelf(1, 1, 12);
    due.is("SIGNS on the other two", x.count(5), 24);
    due.is("the last ahead of it", x.fetch(0, 11, 1), 12);
    due.is("the first behind it", x.fetch(2, 0, 1), 25);
    due.is("all its places are empty", x.fetch(1, 0, 1), Due.NONE);
    due.is("all its places are empty", x.fetch(1, 11, 1), Due.NONE);
    x.shelf(0, -1, 0);
    x.shelf(0, 1, 12);
    due.is("empty after it was missing", x.fetch(0, 11, 1), Due.NONE);
    due.is("SIGNS on the last", x.count(5), 12);
  }

  /** "The SIGN of a COLUMN, as it is now": what comes to the COLUMN later is of no matter. */
  private static void storesWhatItIsNow() {
    EngravedLines x = Due.read("n5+3''");
    x.shelf(0, 0, 1);
    x.store(0, 0, 0);
    x.set(0, 0, 2);
    due.is("KIND there", x.fetch(0, 0, 0), 0);
    due.is("KIND of the COLUMN now", x.store(0, 0, 0), Due.KIND);
    x.drop();
    due.is("DURATION there", x.fetch(0, 0, 1), 5);
    due.is("STEP there", x.fetch(0, 0, 2), 3);
    due.is("TOP there", x.fetch(0, 0, 3), 6);
    Due.feed(x, "r2");
    x.music();
    due.is("SIGNS on SHELVES stay", x.count(5), 1);
    // In a place that isn't empty the SIGN of now takes the place of the other one.
    x.set(0, 0, 0);
    due.is("store again", x.store(0, 0, 0), 1);
    due.is("DURATION there", x.fetch(0, 0, 1), 2);
    due.is("TOP there", x.fetch(0, 0, 3), 1);
  }

  /** "(WIDE, ADORN as it had)", whatever COLUMN was there ahead. */
  private static void comesOnWhatWasThere() {
    EngravedLines x = Due.read("n5-3'' r64'");
    x.set(0, 3, 12);
    x.shelf(2, 0, 12);
    x.store(2, 11, 0);
    x.drop();
    due.is("comes", x.comes(2, 11), 1);
    int[] parts = {0, 5, -3, 12, 2, 6, -4};
    for (int what = 0; what < 7; what++) {
      due.is("of(1, " + what + ")", x.of(1, what), parts[what]);
    }
    due.is("its ROD", x.spring(1, 2), Float.floatToIntBits(13));
    x.drop();
    x.drop();
    x.add(2, 64);
    x.drop();
    due.is("comes, the first", x.comes(2, 11), 0);
    for (int what = 0; what < 7; what++) {
      due.is("of(0, " + what + ")", x.of(0, what), parts[what]);
    }
  }

  private static void comesUpTo32() {
    EngravedLines x = Due.read("b" + " b".repeat(30));
    x.shelf(0, 2, 1);
    x.store(0, 0, 30);
    due.is("comes, the 32nd", x.comes(0, 0), 31);
    due.is("comes, the 33rd", x.comes(0, 0), Due.FULL);
    due.is("store of the 32nd", x.store(0, 0, 31), 1);
    due.is("store of the 33rd", x.store(0, 0, 32), Due.BEYOND);
    x.drop();
    due.is("store of one that was dropped", x.store(0, 0, 31), Due.BEYOND);
    due.is("comes, the 32nd", x.comes(0, 0), 31);
  }
}
