/** Promises 14 to 17 at their bounds: no COLUMNS, one line, 32 lines, no way, the first of several. */
public final class LineBoundsTest {
  private static final Due due = new Due();

  public static void main(String[] args) {
    none();
    endsOfLines();
    oneToThirtyTwo();
    totalOneByOne();
    linesThatAreThere();
    roomForTheRods();
    wayThatBreaksOff();
    firstOfSeveral();
    askedFirst();
    movedInLinesOfTwo();
    movedAtOnePlace();
    movedByDuration();
    linesMoreAndFewer();
    due.end();
  }

  private static String bars(int n) {
    return "b" + " b".repeat(n - 1);
  }

  private static EngravedLines read(String text, int width) {
    EngravedLines x = Due.read(text);
    x.width(width);
    return x;
  }

  /** "(0 without COLUMNS)"; an empty SUM is 0. */
  private static void none() {
    EngravedLines x = new EngravedLines();
    due.is("lines()", x.lines(), 0);
    due.is("total()", x.total(), 0);
    for (int what = 0; what < 4; what++) {
      due.is("line(0, " + what + ")", x.line(0, what), Due.BEYOND);
    }
    due.is("told(2)", x.told(2), 0);
  }

  /** "a line ends behind a BAR or the last COLUMN": no two of these share a line of 20. */
  private static void endsOfLines() {
    String[] texts = {"b", "n64", "r64", "b n64", "b r64", "b b", "b b n64",
        "n64 n64", "n64 b", "r64 b", "b n64 b", "n64 b n64", "b b r64 n64"};
    int[] lines = {1, 1, 1, 2, 2, 2, 3, Due.NONE, Due.NONE, Due.NONE, Due.NONE, Due.NONE, Due.NONE};
    for (int i = 0; i < texts.length; i++) {
      EngravedLines x = read(texts[i], 20);
      for (int column = 0; column < x.count(0); column++) {
        x.set(column, 3, 12);
      }
      due.is("lines() of " + texts[i], x.lines(), lines[i]);
    }
    EngravedLines x = read("n64 r64 n64 r64", 20);
    due.is("NOTES and RESTS end no line", x.lines(), 1);
    x.set(1, 0, 2);
    due.is("a BAR ends one", x.lines(), 2);
    due.is("behind itself", x.line(0, 1), 1);
    x.set(3, 0, 2);
    due.is("a BAR at the end adds none", x.lines(), 2);
  }

  private static void oneToThirtyTwo() {
    for (int n = 1; n <= 32; n++) {
      EngravedLines x = read(bars(n), 20);
      for (int i = 0; i < n; i++) {
        x.set(i, 3, 12);
      }
      due.is("lines() of " + n, x.lines(), n);
      due.is("first of the last", x.line(n - 1, 0), n - 1);
      due.is("last of the last", x.line(n - 1, 1), n - 1);
      due.is("one more", x.line(n, 0), Due.BEYOND);
      due.is("no next one", x.line(n - 1, 3), Due.BEYOND);
      due.is("the next one of the one ahead", x.line(n - 2, 3), n == 1 ? Due.BEYOND : 10);
    }
  }

  /** "TOTAL of a way is the SUM of BADS of its lines", each sum rounded to a FLOAT. */
  private static void totalOneByOne() {
    EngravedLines x = read("n1 b" + " n1 b".repeat(15), 20);
    for (int i = 0; i < 32; i += 2) {
      x.set(i, 3, 9);
    }
    float sum = 0;
    double unrounded = 0;
    for (int i = 0; i < 16; i++) {
      sum += bad(20f, 9f, 3.25f);
      unrounded += bad(20f, 9f, 3.25f);
    }
    due.is("lines()", x.lines(), 16);
    due.bits("total()", x.total(), sum);
    due.holds("it is of matter that it is rounded", sum != (float) unrounded);
  }

  /** "BEYOND: no such line (no next one, what 3), what". */
  private static void linesThatAreThere() {
    EngravedLines x = read("n64 n64 b n64 n64 b n64 n64 b", 54);
    for (int k = -2; k <= 4; k++) {
      for (int what = -2; what <= 5; what++) {
        boolean isThere = k >= 0 && k < (what == 3 ? 2 : 3) && what >= 0 && what < 4;
        boolean answers = x.line(k, what) != Due.BEYOND;
        due.holds("line(" + k + ", " + what + ") is" + (isThere ? " " : " not ") + "there",
            answers == isThere);
      }
    }
  }

  /** "(each a STRETCH that isn't BAD none)": RODS that are just the WIDTH have room. */
  private static void roomForTheRods() {
    EngravedLines x = read("n1 n1 b", 38);
    for (int i = 0; i < 3; i++) {
      x.set(i, 3, 12);
    }
    due.is("RODS 39 at 38", x.lines(), Due.NONE);
    x.width(39);
    due.is("RODS 39 at 39", x.lines(), 1);
    x.width(40);
    due.is("RODS 39 at 40", x.lines(), 1);
  }

  /** "of all places ahead of it .. with a BEST": behind one without, there may be another way. */
  private static void wayThatBreaksOff() {
    // The first BAR of ROD 13 with the NOTE of 13 has no room at 25, but alone it has.
    EngravedLines x = read("n1 b n1 b", 25);
    x.set(0, 3, 12);
    x.set(1, 3, 12);
    due.is("no way to the first BAR", x.lines(), Due.NONE);
    due.is("none through it", x.total(), Due.NONE);
    x.set(0, 0, 2);
    due.is("a BAR more", x.lines(), 2);
    // The place behind COLUMN 1 has none, that behind COLUMN 0 has one, the last one has none.
    EngravedLines y = read("b n1 b n1 b", 25);
    y.set(1, 3, 12);
    y.set(2, 3, 12);
    due.is("no way in the middle", y.lines(), Due.NONE);
    y.width(26);
    due.is("a way in the middle", y.lines(), 3);
  }

  /** "of several the first": where the BAD of two ways is the same, the first place it is. */
  private static void firstOfSeveral() {
    // 2 + 2 and 1 + 3 of four BARS are unlike; of three, 1 + 2 and 2 + 1 are the same.
    EngravedLines x = read(bars(3), 20);
    for (int i = 0; i < 3; i++) {
      x.set(i, 3, 6);
    }
    due.is("lines()", x.lines(), 2);
    due.is("first line's last", x.line(0, 1), 0);
    // Of five BARS, two in a line at most: 1 + 2 + 2 goes ahead of 2 + 1 + 2 and 2 + 2 + 1.
    EngravedLines y = read(bars(5), 20);
    for (int i = 0; i < 5; i++) {
      y.set(i, 3, 6);
    }
    due.is("lines() of five", y.lines(), 3);
    int[] lasts = {0, 2, 4};
    for (int k = 0; k < 3; k++) {
      due.is("last of line " + k, y.line(k, 1), lasts[k]);
    }
  }

  private interface Change {
    void on(EngravedLines x);
  }

  private static int ask(EngravedLines x, int which) {
    switch (which) {
      case 0:
        return x.lines();
      case 1:
        return x.line(1, 0);
      case 2:
        return x.line(0, 2);
      case 3:
        return x.line(0, 3);
      case 4:
        return x.total();
      default:
        return x.moved(0, 0, 1);
    }
  }

  /** What the BEST was ahead of a change is of no matter behind it, whichever act asks first. */
  private static void askedFirst() {
    Change[] changes = {x -> x.width(27), x -> x.width(380), x -> x.add(0, 64), x -> x.drop(),
        x -> x.set(0, 1, 1), x -> x.set(2, 0, 0), x -> x.set(4, 3, 12), x -> x.set(0, 2, -12),
        x -> x.restore(), x -> x.comes(0, 0), x -> x.music()};
    for (int c = 0; c < changes.length; c++) {
      for (int which = 0; which < 6; which++) {
        EngravedLines asked = ready();
        for (int w = 0; w < 6; w++) {
          ask(asked, w);
        }
        changes[c].on(asked);
        EngravedLines twin = ready();
        changes[c].on(twin);
        // The twin has never asked for the BEST: it is told by another act first.
        int other = which == 4 ? 0 : 4;
        ask(twin, other);
        due.is("change " + c + ", act " + which, ask(asked, which), ask(twin, which));
      }
    }
    EngravedLines x = ready();
    x.width(380);
    due.bits("total() first of all", x.total(), bad(380f, 153f, 72.75f));
    x.width(100);
    due.is("moved() first of all", x.moved(0, 0, 64), 0);
  }

  private static float bad(float width, float ideals, float flexes) {
    float q = (width - ideals) / flexes;
    float bad = 100f * q * q;
    return q < 0 ? bad * 2f : bad;
  }

  private static EngravedLines ready() {
    EngravedLines x = read("b n1 b", 40);
    x.image();
    Due.feed(x, "n64 n64 b n64 n64 b n64 n64 b");
    x.music();
    x.width(54);
    x.shelf(0, 0, 1);
    x.store(0, 0, 0);
    Due.feed(x, "n64 b n32 b n64");
    return x;
  }

  /** "or AT of one of them is otherwise": be it only that of the last. */
  private static void movedInLinesOfTwo() {
    EngravedLines x = read("n64 b n64 b n64", 30);
    due.is("lines()", x.lines(), 3);
    due.is("AT of the BAR", x.moved(0, 0, 63), 1);
    due.is("AT of the second BAR", x.moved(2, 0, 63), 1);
    due.is("as it is", x.moved(2, -12, 64), 0);
    // One COLUMN alone is AT 0, however long it is.
    due.is("alone in its line", x.moved(4, 20, 63), 0);
    due.is("a BAR", x.moved(1, 0, 1), 0);
  }

  /** DURATION of the last COLUMN moves those ahead of it by FORCE alone. */
  private static void movedAtOnePlace() {
    EngravedLines x = read("n64 n64", 54);
    due.is("the last one's DURATION", x.moved(1, 0, 63), 1);
    due.is("the first one's DURATION", x.moved(0, 0, 63), 1);
    // RODS leave no room to move.
    EngravedLines y = read("n1 n1", 26);
    y.set(0, 3, 12);
    y.set(1, 3, 12);
    due.is("just as long as their RODS", y.held(0, 1), 0);
    due.is("the second one is HELD then, at the same place", y.moved(0, 0, 2), 0);
  }

  /** "BEYOND: no such COLUMN, STEP, DURATION (0 to 64)"; "(DURATION 0: as it is)". */
  private static void movedByDuration() {
    EngravedLines x = read("n64 n64 b n64 n64 b", 54);
    for (int duration = -3; duration <= 67; duration++) {
      boolean fits = duration >= 0 && duration <= 64;
      boolean stays = duration == 0 || duration == 64;
      int answer = x.moved(4, 0, duration);
      due.holds("moved(4, 0, " + duration + ") answers " + answer,
          fits ? stays ? answer == 0 : answer >= 1 && answer <= 2 : answer == Due.BEYOND);
      due.is("DURATION stays", x.of(4, 1), 64);
    }
    for (int step = -15; step <= 23; step++) {
      boolean fits = step >= -12 && step <= 20;
      due.is("moved(0, " + step + ", 0)", x.moved(0, step, 0), fits ? 0 : Due.BEYOND);
      due.is("STEP stays", x.of(0, 2), 0);
    }
  }

  /** "the line of the same number has other COLUMNS then, or there is none": lines of now count. */
  private static void linesMoreAndFewer() {
    EngravedLines x = read("n64 b n1 b", 30);
    due.is("lines() now", x.lines(), 1);
    due.is("two then: the one of now is another", x.moved(2, 0, 64), 1);
    EngravedLines y = read("n64 b n64 b", 30);
    due.is("lines() now", y.lines(), 2);
    due.is("one then: the first is another, the second there is none", y.moved(2, 0, 1), 2);
    due.is("nothing has changed", y.lines(), 2);
  }
}
