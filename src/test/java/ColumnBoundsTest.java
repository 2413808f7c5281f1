/** Promises 1 to 7: each value within its bounds is taken, none next to them. */
public final class ColumnBoundsTest {
  private static final Due due = new Due();
  private static final int[] LEAST = {0, 1, -12, 1, 0};
  private static final int[] MOST = {2, 64, 20, 12, 9};

  public static void main(String[] args) {
    addWithinBounds();
    atMost32();
    asAtFirst();
    emptiedByDrop();
    setWithinBounds();
    columnsThatAreThere();
    inkOfNotes();
    inkOfOthers();
    springs();
    rods();
    barWithoutDuration();
    widths();
    due.end();
  }

  private static boolean isWithin(int v, int least, int most) {
    return v >= least && v <= most;
  }

  /** "KIND 0 NOTE, 1 REST, 2 BAR; DURATION (1 to 64 ..)". */
  private static void addWithinBounds() {
    for (int kind = -2; kind <= 4; kind++) {
      EngravedLines x = new EngravedLines();
      for (int duration = -2; duration <= 67; duration++) {
        boolean fits = isWithin(kind, 0, 2) && isWithin(duration, 1, 64);
        String call = "add(" + kind + ", " + duration + ")";
        due.is(call, x.add(kind, duration), fits ? 0 : Due.BEYOND);
        due.is("count(0) after " + call, x.count(0), fits ? 1 : 0);
        if (fits) {
          due.is("its KIND, " + call, x.of(0, 0), kind);
          due.is("its DURATION, " + call, x.of(0, 1), duration);
          x.drop();
        }
      }
    }
  }

  /** "COLUMNS 0, 1, .. (32 at most)". */
  private static void atMost32() {
    EngravedLines x = new EngravedLines();
    for (int i = 0; i < 32; i++) {
      due.is("add, " + i, x.add(i % 3, 1 + i), i);
    }
    for (int kind = 0; kind < 3; kind++) {
      due.is("add to 32", x.add(kind, 64), Due.FULL);
    }
    due.is("count(0)", x.count(0), 32);
    due.is("the last one", x.of(31, 1), 32);
    due.is("one behind it", x.of(32, 1), Due.BEYOND);
    due.is("drop", x.drop(), 31);
    due.is("there is room again", x.add(0, 50), 31);
    due.is("and again none", x.add(0, 50), Due.FULL);
    for (int i = 0; i < 31; i++) {
      due.is("DURATION of " + i, x.of(i, 1), 1 + i);
    }
    for (int left = 31; left >= 0; left--) {
      due.is("drop", x.drop(), left);
    }
    due.is("drop of none", x.drop(), Due.NONE);
    due.is("there is room again", x.add(1, 1), 0);
  }

  /** "(.. 0 at first)", "(.. 2 at first)": nothing of what was there ahead is left. */
  private static void asAtFirst() {
    EngravedLines x = new EngravedLines();
    for (int round = 0; round < 2; round++) {
      for (int i = 0; i < 5; i++) {
        x.add(0, 9);
        due.is("STEP at first", x.of(i, 2), 0);
        due.is("WIDE at first", x.of(i, 3), 2);
        due.is("ADORN at first", x.of(i, 4), 0);
        x.set(i, 2, 20);
        x.set(i, 3, 12);
        x.set(i, 4, 9);
      }
      for (int i = 0; i < 5; i++) {
        x.drop();
      }
    }
  }

  /** An object whose COLUMNS have all been dropped is as one that never had any. */
  private static void emptiedByDrop() {
    EngravedLines x = Due.read("n64-12 b n9");
    x.lines();
    x.drop();
    x.drop();
    x.drop();
    due.is("lines()", x.lines(), 0);
    due.is("total()", x.total(), 0);
    due.is("line(0, 0)", x.line(0, 0), Due.BEYOND);
    due.is("count(3)", x.count(3), 0);
    due.is("count(4)", x.count(4), 0);
    due.is("of(0, 0)", x.of(0, 0), Due.BEYOND);
    due.is("force(0, 0)", x.force(0, 0), Due.BEYOND);
    due.is("moved(0, 0, 0)", x.moved(0, 0, 0), Due.BEYOND);
    due.is("image()", x.image(), 0);
  }

  /** "Of a COLUMN KIND .. becomes v: what it was". */
  private static void setWithinBounds() {
    for (int what = 0; what < 5; what++) {
      EngravedLines x = Due.read("n1 n1");
      int was = x.of(1, what);
      for (int v = LEAST[what] - 3; v <= MOST[what] + 3; v++) {
        boolean fits = isWithin(v, LEAST[what], MOST[what]);
        String call = "set(1, " + what + ", " + v + ")";
        due.is(call, x.set(1, what, v), fits ? was : Due.BEYOND);
        was = fits ? v : was;
        due.is("of(1, " + what + ") after " + call, x.of(1, what), was);
      }
      due.is("the same once more", x.set(1, what, was), was);
      due.is("the other one", x.of(0, what), new int[] {0, 1, 0, 2, 0}[what]);
    }
  }

  /** The first and the last COLUMN are there, those next to them aren't. */
  private static void columnsThatAreThere() {
    for (int n = 1; n <= 32; n++) {
      EngravedLines x = Due.read("r2" + " r2".repeat(n - 1));
      for (int column : new int[] {-1, 0, n - 1, n}) {
        boolean isThere = column >= 0 && column < n;
        String of = column + " of " + n;
        due.is("of " + of, x.of(column, 1), isThere ? 2 : Due.BEYOND);
        due.is("set " + of, x.set(column, 1, 2), isThere ? 2 : Due.BEYOND);
        due.is("moved " + of, x.moved(column, 0, 0), isThere ? 0 : Due.BEYOND);
        due.is("held " + of, x.held(column, column), isThere ? 0 : Due.BEYOND);
        due.is("spring " + of, x.spring(column, 2),
            isThere ? Float.floatToIntBits(3) : Due.BEYOND);
      }
    }
  }

  /** "of a NOTE of a STEP below 0 from STEP - 1 to STEP + 7, of another one ..". */
  private static void inkOfNotes() {
    EngravedLines x = Due.read("n1");
    for (int step = -12; step <= 20; step++) {
      x.set(0, 2, step);
      due.is("BOTTOM at STEP " + step, x.of(0, 6), step <= -1 ? step - 1 : step - 7);
      for (int adorn = 0; adorn <= 9; adorn += 3) {
        x.set(0, 4, adorn);
        int top = step <= -1 ? step + 7 + adorn : step + 1 + adorn;
        due.is("TOP at STEP " + step + ", ADORN " + adorn, x.of(0, 5), top);
      }
      due.is("BOTTOM with ADORN", x.of(0, 6), step <= -1 ? step - 1 : step - 7);
    }
  }

  /** "of a REST from -3 to 3; of a BAR from -4 to 4; TOP is ADORN more": whatever their STEP. */
  private static void inkOfOthers() {
    EngravedLines x = Due.read("r1 b");
    for (int step : new int[] {-12, -1, 0, 1, 20}) {
      for (int adorn = 0; adorn <= 9; adorn++) {
        for (int i = 0; i < 2; i++) {
          x.set(i, 2, step);
          x.set(i, 4, adorn);
          due.is("TOP of " + i, x.of(i, 5), 3 + i + adorn);
          due.is("BOTTOM of " + i, x.of(i, 6), -3 - i);
        }
      }
    }
  }

  /** "2 to the k being the greatest power of 2 that DURATION isn't below". */
  private static void springs() {
    EngravedLines x = Due.read("n1 r1");
    for (int duration = 1; duration <= 64; duration++) {
      int k = 0;
      int power = 1;
      while (2 * power <= duration) {
        power = 2 * power;
        k++;
      }
      // All of these are told by few bits: nothing is rounded.
      double ideal = 6 + 3 * (k + (double) duration / power - 1);
      for (int i = 0; i < 2; i++) {
        x.set(i, 1, duration);
        due.bits("IDEAL of DURATION " + duration, x.spring(i, 0), (float) ideal);
        due.bits("FLEX of DURATION " + duration, x.spring(i, 1), (float) (ideal / 2));
      }
    }
  }

  /** "ROD: WIDE and 1". */
  private static void rods() {
    EngravedLines x = Due.read("n1 r64 b");
    for (int wide = 1; wide <= 12; wide++) {
      for (int i = 0; i < 3; i++) {
        x.set(i, 3, wide);
        due.bits("ROD of " + i + " of WIDE " + wide, x.spring(i, 2), wide + 1);
      }
    }
  }

  /** "of a BAR it does not matter". */
  private static void barWithoutDuration() {
    EngravedLines x = Due.read("b n1");
    for (int duration = 1; duration <= 64; duration++) {
      x.set(0, 1, duration);
      due.bits("IDEAL of a BAR", x.spring(0, 0), 3);
      due.bits("FLEX of a BAR", x.spring(0, 1), 0.25f);
      due.is("DURATION of NOTES and RESTS", x.count(4), 1);
    }
    due.is("it is kept all the same", x.of(0, 1), 64);
  }

  /** "WIDTH of a line (20 to 380; 120 at first)". */
  private static void widths() {
    EngravedLines x = new EngravedLines();
    int was = 120;
    for (int v = 0; v <= 400; v++) {
      boolean fits = isWithin(v, 20, 380);
      due.is("width(" + v + ")", x.width(v), fits ? was : Due.BEYOND);
      was = fits ? v : was;
    }
    due.is("count(1)", x.count(1), 380);
    due.is("width(-20)", x.width(-20), Due.BEYOND);
    due.is("count(1)", x.count(1), 380);
  }
}
