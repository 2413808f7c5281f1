import java.util.ArrayList;
import java.util.List;
import java.util.regex.Matcher;
import java.util.regex.Pattern;

/**
 * The document once more, written with the whole Java library and by other ways than the program:
 * ways to break lines by trying all, heights by trying each, FAULTS by what may still go on.
 */
final class Oracle {
  private static final Pattern MUSIC = musicPattern();

  private static final class Sign {
    int kind;
    int duration = 1;
    int step = 0;
    int wide = 2;
    int adorn = 0;

    Sign(int kind) {
      this.kind = kind;
    }

    Sign twin() {
      Sign s = new Sign(kind);
      s.duration = duration;
      s.step = step;
      s.wide = wide;
      s.adorn = adorn;
      return s;
    }

    int top() {
      int[] tops = {step < 0 ? step + 7 : step + 1, 3, 4};
      return tops[kind] + adorn;
    }

    int bottom() {
      int[] bottoms = {step < 0 ? step - 1 : step - 7, -3, -4};
      return bottoms[kind];
    }

    float ideal() {
      if (kind == 2) {
        return 3f;
      }
      int power = Integer.highestOneBit(duration);
      float f = (float) duration / (float) power - 1f;
      float k = Integer.numberOfTrailingZeros(power);
      return 6f * (1f + (k + f) / 2f);
    }

    float flex() {
      return kind == 2 ? 0.25f : ideal() / 2f;
    }

    float rod() {
      return wide + 1f;
    }
  }

  private static final class Shelf {
    final int kind;
    final Sign[] places;

    Shelf(int kind, int n) {
      this.kind = kind;
      this.places = new Sign[n];
    }

    Shelf twin() {
      Shelf s = new Shelf(kind, places.length);
      for (int i = 0; i < places.length; i++) {
        s.places[i] = places[i] == null ? null : places[i].twin();
      }
      return s;
    }
  }

  private static final class Layout {
    boolean[] held;
    float force;
    float[] lengths;
    float[] at;
  }

  private static final class Way {
    float total;
    List<int[]> lines = new ArrayList<>();
  }

  private List<Sign> columns = new ArrayList<>();
  private int width = 120;
  private Shelf[] shelves = new Shelf[3];
  private List<Sign> keptColumns = null;
  private int keptWidth;
  private Shelf[] keptShelves;
  private final Object[] sheets = new Object[4];
  private final StringBuilder tape = new StringBuilder();
  private final int[] told = new int[8];

  private static Pattern musicPattern() {
    StringBuilder durations = new StringBuilder("(?:1");
    for (int i = 2; i <= 64; i++) {
      durations.append('|').append(i);
    }
    durations.append(')');
    StringBuilder above = new StringBuilder("(?:0");
    for (int i = 1; i <= 20; i++) {
      above.append('|').append(i);
    }
    above.append(')');
    StringBuilder below = new StringBuilder("(?:1");
    for (int i = 2; i <= 12; i++) {
      below.append('|').append(i);
    }
    below.append(')');
    String sign = "(?:n" + durations + "(?:\\+" + above + "|-" + below + ")?|r" + durations
        + "|b)'{0,9}";
    return Pattern.compile(sign + "(?: " + sign + ")*");
  }

  private int error(int k) {
    told[k]++;
    return Due.LOW - k;
  }

  private boolean noColumn(int column) {
    return column < 0 || column >= columns.size();
  }

  private boolean noStretch(int a, int b) {
    return noColumn(a) || noColumn(b) || a > b;
  }

  private static boolean out(int v, int least, int most) {
    return v < least || v > most;
  }

  int add(int kind, int duration) {
    if (out(kind, 0, 2) || out(duration, 1, 64)) {
      return error(1);
    }
    if (columns.size() == 32) {
      return error(4);
    }
    Sign s = new Sign(kind);
    s.duration = duration;
    columns.add(s);
    return columns.size() - 1;
  }

  int drop() {
    if (columns.isEmpty()) {
      return error(2);
    }
    columns.remove(columns.size() - 1);
    return columns.size();
  }

  int set(int column, int what, int v) {
    if (noColumn(column)) {
      return error(1);
    }
    Sign s = columns.get(column);
    int was;
    switch (what) {
      case 0:
        if (out(v, 0, 2)) {
          return error(1);
        }
        was = s.kind;
        s.kind = v;
        return was;
      case 1:
        if (out(v, 1, 64)) {
          return error(1);
        }
        was = s.duration;
        s.duration = v;
        return was;
      case 2:
        if (out(v, -12, 20)) {
          return error(1);
        }
        was = s.step;
        s.step = v;
        return was;
      case 3:
        if (out(v, 1, 12)) {
          return error(1);
        }
        was = s.wide;
        s.wide = v;
        return was;
      case 4:
        if (out(v, 0, 9)) {
          return error(1);
        }
        was = s.adorn;
        s.adorn = v;
        return was;
      default:
        return error(1);
    }
  }

  int of(int column, int what) {
    if (noColumn(column) || out(what, 0, 6)) {
      return error(1);
    }
    Sign s = columns.get(column);
    return new int[] {s.kind, s.duration, s.step, s.wide, s.adorn, s.top(), s.bottom()}[what];
  }

  int spring(int column, int what) {
    if (noColumn(column) || out(what, 0, 2)) {
      return error(1);
    }
    Sign s = columns.get(column);
    return Float.floatToIntBits(what == 0 ? s.ideal() : what == 1 ? s.flex() : s.rod());
  }

  int width(int v) {
    if (out(v, 20, 380)) {
      return error(1);
    }
    int was = width;
    width = v;
    return was;
  }

  private Layout layout(List<Sign> signs) {
    Layout l = new Layout();
    l.held = new boolean[signs.size()];
    while (true) {
      float r = 0;
      float n = 0;
      float f = 0;
      boolean all = true;
      for (int i = 0; i < signs.size(); i++) {
        if (l.held[i]) {
          r += signs.get(i).rod();
        } else {
          all = false;
          n += signs.get(i).ideal();
          f += signs.get(i).flex();
        }
      }
      if (all) {
        l.force = 0;
        break;
      }
      l.force = (((float) width - r) - n) / f;
      boolean more = false;
      for (int i = 0; i < signs.size(); i++) {
        Sign s = signs.get(i);
        if (!l.held[i] && s.ideal() + l.force * s.flex() < s.rod()) {
          l.held[i] = true;
          more = true;
        }
      }
      if (!more) {
        break;
      }
    }
    l.lengths = new float[signs.size()];
    l.at = new float[signs.size()];
    float at = 0;
    for (int i = 0; i < signs.size(); i++) {
      Sign s = signs.get(i);
      l.lengths[i] = l.held[i] ? s.rod() : s.ideal() + l.force * s.flex();
      l.at[i] = at;
      at += l.lengths[i];
    }
    return l;
  }

  private List<Sign> part(int a, int b) {
    return columns.subList(a, b + 1);
  }

  int force(int a, int b) {
    return noStretch(a, b) ? error(1) : Float.floatToIntBits(layout(part(a, b)).force);
  }

  int held(int a, int b) {
    if (noStretch(a, b)) {
      return error(1);
    }
    int n = 0;
    for (boolean h : layout(part(a, b)).held) {
      n += h ? 1 : 0;
    }
    return n;
  }

  int at(int a, int b, int i, int what) {
    if (noStretch(a, b) || out(i, a, b) || out(what, 0, 2)) {
      return error(1);
    }
    Layout l = layout(part(a, b));
    return what == 0 ? Float.floatToIntBits(l.lengths[i - a])
        : what == 1 ? Float.floatToIntBits(l.at[i - a]) : (int) Math.floor(l.at[i - a]);
  }

  /** BAD, or null. */
  private Float badness(List<Sign> signs) {
    float rods = 0;
    float n = 0;
    float f = 0;
    for (Sign s : signs) {
      rods += s.rod();
      n += s.ideal();
      f += s.flex();
    }
    if (rods > width) {
      return null;
    }
    float q = ((float) width - n) / f;
    float bad = 100f * q;
    bad = bad * q;
    return q < 0 ? bad * 2f : bad;
  }

  int bad(int a, int b) {
    if (noStretch(a, b)) {
      return error(1);
    }
    Float bad = badness(part(a, b));
    return bad == null ? error(2) : Float.floatToIntBits(bad);
  }

  /** The ink of a side in each CELL, null where there is none. */
  private Integer[] skyline(int a, int b, int side) {
    Integer[] ink = new Integer[400];
    Layout l = layout(part(a, b));
    for (int c = 0; c < 400; c++) {
      for (int i = a; i <= b; i++) {
        Sign s = columns.get(i);
        int cell = (int) l.at[i - a];
        if (c >= cell && c < cell + s.wide) {
          int v = side == 0 ? s.top() : s.bottom();
          boolean wins = ink[c] == null || (side == 0 ? v > ink[c] : v < ink[c]);
          ink[c] = wins ? Integer.valueOf(v) : ink[c];
        }
      }
    }
    return ink;
  }

  int sky(int a, int b, int side, int cell) {
    if (noStretch(a, b) || out(side, 0, 1) || out(cell, 0, 399)) {
      return error(1);
    }
    Integer ink = skyline(a, b, side)[cell];
    return ink == null ? error(2) : ink;
  }

  private int distance(int a, int b, int c, int d) {
    Integer[] lower = skyline(a, b, 1);
    Integer[] upper = skyline(c, d, 0);
    for (int v = 8;; v++) {
      boolean isEnough = true;
      for (int cell = 0; cell < 400; cell++) {
        if (lower[cell] != null && upper[cell] != null && upper[cell] - lower[cell] + 2 > v) {
          isEnough = false;
        }
      }
      if (isEnough) {
        return v;
      }
    }
  }

  int apart(int a, int b, int c, int d) {
    return noStretch(a, b) || noStretch(c, d) ? error(1) : distance(a, b, c, d);
  }

  /** The BEST of the first n COLUMNS by its last line, or null; known holds those found. */
  private Way best(int n, Way[] known, boolean[] isKnown) {
    if (isKnown[n]) {
      return known[n];
    }
    Way best = null;
    if (n == 0) {
      best = new Way();
    } else if (n == columns.size() || columns.get(n - 1).kind == 2) {
      for (int from = 0; from < n; from++) {
        Way ahead = best(from, known, isKnown);
        Float bad = badness(part(from, n - 1));
        if (ahead != null && bad != null && (best == null || ahead.total + bad < best.total)) {
          best = new Way();
          best.total = ahead.total + bad;
          best.lines.addAll(ahead.lines);
          best.lines.add(new int[] {from, n - 1});
        }
      }
    }
    known[n] = best;
    isKnown[n] = true;
    return best;
  }

  private Way best() {
    int n = columns.size();
    return best(n, new Way[n + 1], new boolean[n + 1]);
  }

  int lines() {
    Way w = best();
    return w == null ? error(2) : w.lines.size();
  }

  int line(int k, int what) {
    Way w = best();
    if (w == null) {
      return error(2);
    }
    if (out(what, 0, 3) || k < 0 || k >= w.lines.size()
        || what == 3 && k == w.lines.size() - 1) {
      return error(1);
    }
    int[] l = w.lines.get(k);
    if (what < 2) {
      return l[what];
    }
    if (what == 2) {
      return (int) layout(part(l[0], l[1])).at[l[1] - l[0]];
    }
    int[] next = w.lines.get(k + 1);
    return distance(l[0], l[1], next[0], next[1]);
  }

  int total() {
    Way w = best();
    return w == null ? error(2) : Float.floatToIntBits(w.total);
  }

  int moved(int column, int step, int duration) {
    if (noColumn(column) || out(step, -12, 20) || out(duration, 0, 64)) {
      return error(1);
    }
    Way before = best();
    List<float[]> places = places(before);
    Sign s = columns.get(column);
    Sign was = s.twin();
    s.step = step;
    s.duration = duration == 0 ? s.duration : duration;
    Way then = best();
    List<float[]> placesThen = places(then);
    columns.set(column, was);
    if (before == null || then == null) {
      return error(2);
    }
    int n = 0;
    for (int k = 0; k < before.lines.size(); k++) {
      boolean same = k < then.lines.size()
          && java.util.Arrays.equals(before.lines.get(k), then.lines.get(k))
          && java.util.Arrays.equals(places.get(k), placesThen.get(k));
      n += same ? 0 : 1;
    }
    return n;
  }

  private List<float[]> places(Way w) {
    List<float[]> places = new ArrayList<>();
    if (w != null) {
      for (int[] l : w.lines) {
        places.add(layout(part(l[0], l[1])).at);
      }
    }
    return places;
  }

  int beam(int a, int b, int what) {
    if (noStretch(a, b) || out(what, 0, 3)) {
      return error(1);
    }
    if (b == a) {
      return error(3);
    }
    int steps = 0;
    for (Sign s : part(a, b)) {
      if (s.kind != 0) {
        return error(5);
      }
      steps += s.step;
    }
    float[] at = layout(part(a, b)).at;
    float last = at[b - a];
    float rise = (float) (columns.get(b).step - columns.get(a).step) / 2f / last;
    float slope = (float) Math.floor(rise * 4f + 0.5f) / 4f;
    slope = Math.min(0.5f, Math.max(-0.5f, slope));
    float lift = Float.NEGATIVE_INFINITY;
    for (int i = a; i <= b; i++) {
      float step = columns.get(i).step;
      float side = steps < 0 ? step : 0f - step;
      float tilt = steps < 0 ? slope : 0f - slope;
      lift = Math.max(lift, side - tilt * (at[i - a] - last) * 2f);
    }
    lift += 5f;
    switch (what) {
      case 0:
        return Float.floatToIntBits(rise);
      case 1:
        return Float.floatToIntBits(slope);
      case 2:
        return steps < 0 ? 1 : 0;
      default:
        return Float.floatToIntBits(lift);
    }
  }

  /** The least HEIGHT that CLEARS, or -1. */
  private int clearing(int a, int b, int side) {
    int[] ink = new int[b - a + 1];
    for (int i = a; i <= b; i++) {
      ink[i - a] = side == 0 ? columns.get(i).top() : -columns.get(i).bottom();
    }
    int m = b - a - 1;
    for (int h = 0; h <= 40; h++) {
      boolean clears = true;
      for (int i = 1; i <= m; i++) {
        int c = Math.max(ink[0], ink[m + 1]) + h + Math.min(6, 2 * Math.min(i, m + 1 - i));
        clears = clears && c > ink[i];
      }
      if (clears) {
        return h;
      }
    }
    return -1;
  }

  int slur(int a, int b, int what) {
    if (noStretch(a, b) || out(what, 0, 3)) {
      return error(1);
    }
    if (b - a + 1 < 3) {
      return error(3);
    }
    int above = clearing(a, b, 0);
    int below = clearing(a, b, 1);
    boolean isBelow = below >= 0 && (above < 0 || below < above);
    int[] answers = {isBelow ? 1 : 0, isBelow ? below : above, above, below};
    boolean none = what == 0 ? above < 0 && below < 0 : answers[what] < 0;
    return none ? error(2) : answers[what];
  }

  int feed(int b) {
    if (out(b, 0, 255)) {
      return error(1);
    }
    if (tape.length() == 160) {
      return error(4);
    }
    tape.append((char) b);
    return tape.length();
  }

  int music() {
    String text = tape.toString();
    for (int n = 1; n <= text.length(); n++) {
      Matcher m = MUSIC.matcher(text.substring(0, n));
      if (!m.matches() && !m.hitEnd()) {
        tape.setLength(0);
        return -10 - (n - 1);
      }
    }
    if (!MUSIC.matcher(text).matches()) {
      tape.setLength(0);
      return -10 - text.length();
    }
    List<Sign> signs = new ArrayList<>();
    for (String word : text.split(" ")) {
      String plain = word.replace("'", "");
      Sign s = new Sign("nrb".indexOf(plain.charAt(0)));
      s.adorn = word.length() - plain.length();
      int sign = Math.max(plain.indexOf('+'), plain.indexOf('-'));
      if (s.kind != 2) {
        s.duration = Integer.parseInt(plain.substring(1, sign < 0 ? plain.length() : sign));
      }
      if (sign > 0) {
        s.step = Integer.parseInt(plain.substring(sign));
      }
      signs.add(s);
    }
    if (signs.size() > 32) {
      return error(4);
    }
    tape.setLength(0);
    columns = signs;
    return signs.size();
  }

  int shelf(int shelf, int kind, int n) {
    if (out(shelf, 0, 2) || out(kind, -1, 2) || out(n, 0, 12)) {
      return error(1);
    }
    shelves[shelf] = kind < 0 ? null : new Shelf(kind, n);
    return 1;
  }

  private boolean isLost(int shelf, int i) {
    return shelves[shelf] == null || out(i, 0, shelves[shelf].places.length - 1);
  }

  int store(int shelf, int i, int column) {
    if (out(shelf, 0, 2) || noColumn(column)) {
      return error(1);
    }
    if (isLost(shelf, i)) {
      return error(7);
    }
    if (shelves[shelf].kind != columns.get(column).kind) {
      return error(5);
    }
    shelves[shelf].places[i] = columns.get(column).twin();
    return 1;
  }

  int fetch(int shelf, int i, int what) {
    if (out(shelf, 0, 2) || out(what, 0, 3)) {
      return error(1);
    }
    if (isLost(shelf, i)) {
      return error(7);
    }
    Sign s = shelves[shelf].places[i];
    return s == null ? error(2) : new int[] {s.kind, s.duration, s.step, s.top()}[what];
  }

  int comes(int shelf, int i) {
    if (out(shelf, 0, 2)) {
      return error(1);
    }
    if (isLost(shelf, i)) {
      return error(7);
    }
    Sign s = shelves[shelf].places[i];
    if (s == null) {
      return error(2);
    }
    if (columns.size() == 32) {
      return error(4);
    }
    columns.add(s.twin());
    return columns.size() - 1;
  }

  int sheet(int sheet, int sort, int n) {
    if (out(sheet, 0, 3) || out(sort, -1, 3)) {
      return error(1);
    }
    if (sort == -1) {
      sheets[sheet] = null;
      return 1;
    }
    if (n < 0) {
      return error(3);
    }
    if (n > 40) {
      return error(1);
    }
    sheets[sheet] = sort == 0 ? new float[n] : sort == 1 ? new double[n]
        : sort == 2 ? new short[n] : new int[n];
    return 1;
  }

  private boolean noNumber(int sheet, int i) {
    return sheets[sheet] == null || i < 0 || i >= java.lang.reflect.Array.getLength(sheets[sheet]);
  }

  int put(int sheet, int i, long v, int k) {
    if (out(sheet, 0, 3) || out(k, 0, 20)) {
      return error(1);
    }
    if (noNumber(sheet, i)) {
      return error(7);
    }
    Object row = sheets[sheet];
    if (row instanceof float[]) {
      ((float[]) row)[i] = (float) v / (float) Math.pow(2, k);
    } else if (row instanceof double[]) {
      ((double[]) row)[i] = (double) v / Math.pow(2, k);
    } else if (row instanceof short[]) {
      ((short[]) row)[i] = (short) v;
    } else {
      ((int[]) row)[i] = (int) v;
    }
    return 1;
  }

  long bits(int sheet, int i) {
    if (out(sheet, 0, 3)) {
      told[1]++;
      return Due.LONG_BEYOND;
    }
    if (noNumber(sheet, i)) {
      told[7]++;
      return Due.LONG_LOST;
    }
    Object row = sheets[sheet];
    return row instanceof float[] ? Float.floatToIntBits(((float[]) row)[i])
        : row instanceof double[] ? Double.doubleToLongBits(((double[]) row)[i])
        : row instanceof short[] ? ((short[]) row)[i] : ((int[]) row)[i];
  }

  int cast(int sheet, int i) {
    if (out(sheet, 0, 3)) {
      return error(1);
    }
    if (noNumber(sheet, i)) {
      return error(7);
    }
    Object row = sheets[sheet];
    return row instanceof float[] ? (int) ((float[]) row)[i]
        : row instanceof double[] ? (int) ((double[]) row)[i]
        : row instanceof short[] ? ((short[]) row)[i] : ((int[]) row)[i];
  }

  int rest(int sheet, int i, int j) {
    if (out(sheet, 0, 3)) {
      return error(1);
    }
    if (noNumber(sheet, i) || noNumber(sheet, j)) {
      return error(7);
    }
    if (java.lang.reflect.Array.getDouble(sheets[sheet], j) == 0) {
      return error(6);
    }
    Object row = sheets[sheet];
    if (row instanceof float[]) {
      ((float[]) row)[i] %= ((float[]) row)[j];
    } else if (row instanceof double[]) {
      ((double[]) row)[i] %= ((double[]) row)[j];
    } else if (row instanceof short[]) {
      ((short[]) row)[i] %= ((short[]) row)[j];
    } else {
      ((int[]) row)[i] %= ((int[]) row)[j];
    }
    return 1;
  }

  int lays(int sheet, int a, int b) {
    if (out(sheet, 0, 3) || noStretch(a, b)) {
      return error(1);
    }
    if (sheets[sheet] == null) {
      return error(7);
    }
    float[] at = layout(part(a, b)).at;
    int n = Math.min(at.length, java.lang.reflect.Array.getLength(sheets[sheet]));
    Object row = sheets[sheet];
    for (int i = 0; i < n; i++) {
      if (row instanceof float[]) {
        ((float[]) row)[i] = at[i];
      } else if (row instanceof double[]) {
        ((double[]) row)[i] = at[i];
      } else if (row instanceof short[]) {
        ((short[]) row)[i] = (short) at[i];
      } else {
        ((int[]) row)[i] = (int) at[i];
      }
    }
    return n;
  }

  private static List<Sign> twins(List<Sign> signs) {
    List<Sign> twins = new ArrayList<>();
    for (Sign s : signs) {
      twins.add(s.twin());
    }
    return twins;
  }

  private static Shelf[] twins(Shelf[] shelves) {
    Shelf[] twins = new Shelf[3];
    for (int i = 0; i < 3; i++) {
      twins[i] = shelves[i] == null ? null : shelves[i].twin();
    }
    return twins;
  }

  int image() {
    keptColumns = twins(columns);
    keptWidth = width;
    keptShelves = twins(shelves);
    return columns.size();
  }

  int restore() {
    if (keptColumns == null) {
      return error(2);
    }
    columns = twins(keptColumns);
    width = keptWidth;
    shelves = twins(keptShelves);
    return columns.size();
  }

  int count(int what) {
    int notes = 0;
    int durations = 0;
    for (Sign s : columns) {
      notes += s.kind == 0 ? 1 : 0;
      durations += s.kind < 2 ? s.duration : 0;
    }
    int stored = 0;
    for (Shelf s : shelves) {
      for (int i = 0; s != null && i < s.places.length; i++) {
        stored += s.places[i] == null ? 0 : 1;
      }
    }
    int[] counts = {columns.size(), width, tape.length(), notes, durations, stored};
    return what < 0 || what > 5 ? error(1) : counts[what];
  }

  int told(int k) {
    return out(k, 1, 7) ? error(1) : told[k];
  }
}
