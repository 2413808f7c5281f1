import java.util.Random;

/** Long runs of calls by lot (always the same ones), each answer held against the oracle's. */
public final class OracleTest {
  /** What later calls of an object answer is free. */
  private static final int CALLS = 512;
  private static final int RUNS = 10000;

  private final Random lot;
  private final EngravedLines x = new EngravedLines();
  private final Oracle y = new Oracle();
  private final StringBuilder log = new StringBuilder();
  private int columns = 0;
  private int calls = 0;
  private long got;
  private long want;

  private OracleTest(long seed) {
    lot = new Random(seed);
  }

  public static void main(String[] args) {
    int wrong = 0;
    for (int run = 0; run < RUNS && wrong < 5; run++) {
      OracleTest t = new OracleTest(run);
      wrong += t.agrees(run) ? 0 : 1;
    }
    System.out.println(RUNS + " runs, " + wrong + " wrong");
    if (wrong != 0) {
      System.exit(1);
    }
  }

  private boolean agrees(int run) {
    int shape = run % 6;
    while (calls < CALLS) {
      try {
        step(shape);
      } catch (RuntimeException e) {
        System.out.println("run " + run + " threw " + e + " after " + tail());
        e.printStackTrace(System.out);
        return false;
      }
      if (got != want) {
        System.out.println("run " + run + " call " + calls + ": " + tail() + " answered " + got
            + ", due is " + want);
        return false;
      }
    }
    return true;
  }

  private String tail() {
    return log.substring(Math.max(0, log.length() - 600));
  }

  /** A number from least to most, now and then a little or far outside. */
  private int pick(int least, int most) {
    int way = lot.nextInt(60);
    if (way == 0) {
      return least - 1;
    }
    if (way == 1) {
      return most + 1;
    }
    if (way == 2 && lot.nextInt(4) == 0) {
      return lot.nextBoolean() ? Integer.MIN_VALUE : Integer.MAX_VALUE;
    }
    if (way == 3) {
      return most;
    }
    return least + lot.nextInt(Math.max(1, most - least + 1));
  }

  private int column() {
    return pick(0, columns - 1);
  }

  private long number() {
    switch (lot.nextInt(8)) {
      case 0:
        return 0;
      case 1:
        return lot.nextLong();
      case 2:
        return lot.nextBoolean() ? Long.MAX_VALUE : Long.MIN_VALUE;
      case 3:
        return lot.nextInt();
      case 4:
        return lot.nextLong() >> lot.nextInt(64);
      default:
        return lot.nextInt(41) - 20;
    }
  }

  private void saw(String call, long got, long want) {
    calls++;
    log.append(call).append("; ");
    this.got = got;
    this.want = want;
  }

  private void step(int shape) {
    columns = y.count(0);
    int group = lot.nextInt(100);
    if (shape == 5 ? group < 10 : group < 30) {
      change(shape);
    } else if (group < 40) {
      text(shape);
    } else if (group < 60) {
      stretch();
    } else if (group < 75) {
      lines();
    } else if (group < 85) {
      shelves();
    } else if (group < 95) {
      sheets();
    } else {
      images();
    }
  }

  private void change(int shape) {
    int a = column();
    int v;
    switch (lot.nextInt(12)) {
      case 0:
        saw("drop", x.drop(), y.drop());
        break;
      case 1:
        v = pick(20, shape == 2 ? 40 : shape == 3 ? 380 : 120);
        saw("width " + v, x.width(v), y.width(v));
        break;
      case 2:
      case 3:
      case 4:
      case 5:
        int what = pick(0, 4);
        int[] least = {0, 1, -12, 1, 0};
        int[] most = {2, 64, 20, 12, 9};
        int w = Math.max(0, Math.min(4, what));
        v = pick(least[w], most[w]);
        saw("set " + a + " " + what + " " + v, x.set(a, what, v), y.set(a, what, v));
        break;
      default:
        int kind = shape == 1 ? pick(0, 0) : pick(0, 2);
        v = lot.nextInt(3) == 0 ? 1 << lot.nextInt(7) : pick(1, 64);
        saw("add " + kind + " " + v, x.add(kind, v), y.add(kind, v));
    }
  }

  private void text(int shape) {
    if (lot.nextInt(12) == 0) {
      int b = pick(0, 255);
      saw("feed " + b, x.feed(b), y.feed(b));
      return;
    }
    if (lot.nextInt(12) == 0) {
      saw("music", x.music(), y.music());
      return;
    }
    // A whole TEXT is fed only now and then, so that a run keeps calls for the rest.
    if (lot.nextInt(shape == 4 ? 2 : 5) != 0) {
      saw("count 2", x.count(2), y.count(2));
      return;
    }
    String s = words();
    for (int i = 0; i < s.length() && calls < CALLS; i++) {
      int b = s.charAt(i);
      if (lot.nextInt(shape == 4 ? 60 : 400) == 0) {
        b = " nrb0123456789+-'".charAt(lot.nextInt(17));
      }
      saw("feed '" + (char) b + "'", x.feed(b), y.feed(b));
      if (got != want) {
        return;
      }
    }
    if (calls < CALLS) {
      saw("music", x.music(), y.music());
    }
  }

  private String words() {
    StringBuilder s = new StringBuilder();
    int n = lot.nextInt(14) == 0 ? 34 : 1 + lot.nextInt(14);
    for (int i = 0; i < n; i++) {
      s.append(i == 0 ? "" : " ");
      int kind = lot.nextInt(5);
      if (kind == 0 || n == 34) {
        s.append('b');
      } else if (kind == 1) {
        s.append('r').append(pick(1, 64) & 127);
      } else {
        s.append('n').append(pick(1, 64) & 127);
        int step = pick(-12, 20) % 100;
        if (step > 0 || step == 0 && lot.nextBoolean()) {
          s.append('+').append(step);
        } else if (step < 0) {
          s.append(step);
        }
      }
      for (int a = lot.nextInt(20) == 0 ? lot.nextInt(11) : 0; a > 0; a--) {
        s.append('\'');
      }
    }
    return s.toString();
  }

  private void stretch() {
    int a = lot.nextInt(3) == 0 ? 0 : column();
    int any = lot.nextInt(8) == 0 ? column() : pick(a, columns - 1);
    int b = lot.nextInt(3) == 0 ? columns - 1 : any;
    String ab = " " + a + " " + b + " ";
    int what;
    int i;
    switch (lot.nextInt(11)) {
      case 0:
        saw("force" + ab, x.force(a, b), y.force(a, b));
        break;
      case 1:
        saw("held" + ab, x.held(a, b), y.held(a, b));
        break;
      case 2:
        i = pick(a, b);
        what = pick(0, 2);
        saw("at" + ab + i + " " + what, x.at(a, b, i, what), y.at(a, b, i, what));
        break;
      case 3:
        saw("bad" + ab, x.bad(a, b), y.bad(a, b));
        break;
      case 4:
        what = pick(0, 1);
        i = lot.nextBoolean() ? pick(0, 399) : pick(0, 60);
        saw("sky" + ab + what + " " + i, x.sky(a, b, what, i), y.sky(a, b, what, i));
        break;
      case 5:
        int c = column();
        int d = pick(c, columns - 1);
        saw("apart" + ab + c + " " + d, x.apart(a, b, c, d), y.apart(a, b, c, d));
        break;
      case 6:
      case 7:
        what = pick(0, 3);
        saw("beam" + ab + what, x.beam(a, b, what), y.beam(a, b, what));
        break;
      case 8:
        what = pick(0, 3);
        saw("slur" + ab + what, x.slur(a, b, what), y.slur(a, b, what));
        break;
      case 9:
        what = pick(0, 6);
        saw("of " + a + " " + what, x.of(a, what), y.of(a, what));
        break;
      default:
        what = pick(0, 2);
        saw("spring " + a + " " + what, x.spring(a, what), y.spring(a, what));
    }
  }

  private void lines() {
    int what;
    int k;
    switch (lot.nextInt(4)) {
      case 0:
        saw("lines", x.lines(), y.lines());
        break;
      case 1:
        k = pick(0, lot.nextInt(6));
        what = pick(0, 3);
        saw("line " + k + " " + what, x.line(k, what), y.line(k, what));
        break;
      case 2:
        saw("total", x.total(), y.total());
        break;
      default:
        k = column();
        int step = pick(-12, 20);
        int duration = pick(0, 64);
        saw("moved " + k + " " + step + " " + duration, x.moved(k, step, duration),
            y.moved(k, step, duration));
    }
  }

  private void shelves() {
    int s = pick(0, 2);
    int i = pick(0, 5);
    int v;
    switch (lot.nextInt(6)) {
      case 0:
        int kind = pick(-1, 2);
        v = pick(0, 12);
        saw("shelf " + s + " " + kind + " " + v, x.shelf(s, kind, v), y.shelf(s, kind, v));
        break;
      case 1:
      case 2:
        v = column();
        saw("store " + s + " " + i + " " + v, x.store(s, i, v), y.store(s, i, v));
        break;
      case 3:
      case 4:
        v = pick(0, 3);
        saw("fetch " + s + " " + i + " " + v, x.fetch(s, i, v), y.fetch(s, i, v));
        break;
      default:
        saw("comes " + s + " " + i, x.comes(s, i), y.comes(s, i));
    }
  }

  private void sheets() {
    int s = pick(0, 3);
    int i = pick(0, lot.nextInt(3) == 0 ? 39 : 5);
    int v;
    switch (lot.nextInt(12)) {
      case 0:
        v = pick(-1, 3);
        int n = lot.nextInt(12) == 0 ? lot.nextInt() : pick(0, 40);
        saw("sheet " + s + " " + v + " " + n, x.sheet(s, v, n), y.sheet(s, v, n));
        break;
      case 1:
      case 2:
      case 3:
      case 4:
        long value = number();
        v = pick(0, 20);
        saw("put " + s + " " + i + " " + value + " " + v, x.put(s, i, value, v),
            y.put(s, i, value, v));
        break;
      case 5:
      case 6:
        saw("bits " + s + " " + i, x.bits(s, i), y.bits(s, i));
        break;
      case 7:
        saw("cast " + s + " " + i, x.cast(s, i), y.cast(s, i));
        break;
      case 8:
      case 9:
        v = pick(0, 5);
        saw("rest " + s + " " + i + " " + v, x.rest(s, i, v), y.rest(s, i, v));
        break;
      default:
        int a = column();
        int b = pick(a, columns - 1);
        saw("lays " + s + " " + a + " " + b, x.lays(s, a, b), y.lays(s, a, b));
    }
  }

  private void images() {
    int v;
    switch (lot.nextInt(6)) {
      case 0:
        saw("image", x.image(), y.image());
        break;
      case 1:
        saw("restore", x.restore(), y.restore());
        break;
      case 2:
      case 3:
        v = pick(0, 5);
        saw("count " + v, x.count(v), y.count(v));
        break;
      default:
        v = pick(1, 7);
        saw("told " + v, x.told(v), y.told(v));
    }
  }
}
