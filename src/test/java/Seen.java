/** All that can be asked of an object but told(): where two objects differ, these texts differ. */
final class Seen {
  private final EngravedLines x;
  private final StringBuilder text = new StringBuilder();

  private Seen(EngravedLines x) {
    this.x = x;
  }

  /** The object is used up by this: its TAPE is read, its SHELVES are emptied into COLUMNS. */
  static String all(EngravedLines x) {
    Seen s = new Seen(x);
    s.page();
    s.sheets();
    s.tape();
    s.wideOnShelves();
    s.image();
    return s.text.toString();
  }

  private void note(String name, long answer) {
    text.append(name).append(' ').append(answer).append('\n');
  }

  private void page() {
    for (int what = 0; what < 6; what++) {
      note("count", x.count(what));
    }
    columns();
    for (int shelf = 0; shelf < 3; shelf++) {
      for (int i = 0; i < 13; i++) {
        int kind = x.fetch(shelf, i, 0);
        note("on shelf " + shelf, kind);
        if (kind == Due.LOST) {
          break;
        }
        if (kind != Due.NONE) {
          note("DURATION", x.fetch(shelf, i, 1));
          note("STEP", x.fetch(shelf, i, 2));
          note("TOP", x.fetch(shelf, i, 3));
        }
      }
    }
  }

  private void columns() {
    int n = x.count(0);
    for (int i = 0; i < n; i++) {
      for (int what = 0; what < 5; what++) {
        note("of " + i, x.of(i, what));
      }
    }
  }

  private void sheets() {
    for (int sheet = 0; sheet < 4; sheet++) {
      for (int i = 0; i < 41; i++) {
        long number = x.bits(sheet, i);
        note("on sheet " + sheet, number);
        if (number == Due.LONG_LOST) {
          break;
        }
      }
    }
  }

  private void tape() {
    int answer = x.music();
    note("music", answer);
    if (answer > 0) {
      columns();
    }
  }

  private void wideOnShelves() {
    for (int shelf = 0; shelf < 3; shelf++) {
      for (int i = 0; i < 12; i++) {
        if (x.fetch(shelf, i, 0) < 0) {
          break;
        }
        if (x.count(0) == 32) {
          x.drop();
        }
        note("WIDE on shelf " + shelf, x.of(x.comes(shelf, i), 3));
      }
    }
  }

  private void image() {
    int answer = x.restore();
    note("restore", answer);
    if (answer >= 0) {
      page();
    }
  }
}
