/** An engraver of notation; the promises that its calls keep stand in ../shared/DOC.md. */
public final class EngravedLines {

  private static final int LOW = -2147483000;
  private static final long LOW_OF_LONGS = -9000000000000000000L;
  private static final int BEYOND = 1;
  private static final int NONE = 2;
  private static final int STATE = 3;
  private static final int FULL = 4;
  private static final int KIND = 5;
  private static final int NOUGHT = 6;
  private static final int LOST = 7;

  private static final int MISSING = -1;
  private static final int NOTE = 0;
  private static final int REST = 1;
  private static final int BAR = 2;

  // What a SIGN has, by the numbers that set() and of() use.
  private static final int ITS_KIND = 0;
  private static final int ITS_DURATION = 1;
  private static final int ITS_STEP = 2;
  private static final int ITS_WIDE = 3;
  private static final int ITS_ADORN = 4;
  private static final int PARTS = 5;
  private static final int[] LEAST = {0, 1, -12, 1, 0};
  private static final int[] MOST = {2, 64, 20, 12, 9};
  private static final int WIDE_AT_FIRST = 2;

  private static final int MOST_COLUMNS = 32;
  private static final int LEAST_WIDTH = 20;
  private static final int MOST_WIDTH = 380;
  private static final int WIDTH_AT_FIRST = 120;
  private static final int CELLS = 400;
  private static final int LEAST_APART = 8;
  private static final int MOST_HEIGHT = 40;

  private static final int SHELVES = 3;
  private static final int MOST_ON_SHELF = 12;
  private static final int PLACES = 36;

  private static final int SHEETS = 4;
  private static final int MOST_ON_SHEET = 40;
  private static final int FLOATS = 0;
  private static final int DOUBLES = 1;
  private static final int SHORTS = 2;
  private static final int INTS = 3;
  private static final int MOST_POWER = 20;

  private static final int TAPE_BYTES = 160;
  private static final int NO_FAULT = -1;
  private static final int FAULT_AT_0 = -10;

  private final Page now;
  private final Page kept;
  private boolean hasImage;
  private final Stretch stretch;
  private final Stretch otherStretch;
  private final Skyline skyline;
  private final Skyline nextSkyline;
  private final Best best;
  private final Best otherBest;
  private final Signs otherColumns;
  private final Tape tape;
  private final Sheets sheets;
  private final int[] refusals;

  public EngravedLines() {
    now = new Page();
    kept = new Page();
    hasImage = false;
    stretch = new Stretch();
    otherStretch = new Stretch();
    skyline = new Skyline();
    nextSkyline = new Skyline();
    best = new Best();
    otherBest = new Best();
    otherColumns = new Signs();
    tape = new Tape();
    sheets = new Sheets();
    refusals = new int[LOST + 1];
  }

  // ---- columns

  public int add(int kind, int duration) {
    if (!isAllowed(ITS_KIND, kind) || !isAllowed(ITS_DURATION, duration)) {
      return refuse(BEYOND);
    }
    if (now.columnCount >= MOST_COLUMNS) {
      return refuse(FULL);
    }
    int column = now.columnCount;
    now.columns.lay(column, kind, duration, 0, WIDE_AT_FIRST, 0);
    now.columnCount = column + 1;
    return column;
  }

  public int drop() {
    if (now.columnCount <= 0) {
      return refuse(NONE);
    }
    now.columnCount--;
    return now.columnCount;
  }

  public int set(int column, int what, int v) {
    if (!isColumn(column) || !isWithin(what, 0, PARTS - 1) || !isAllowed(what, v)) {
      return refuse(BEYOND);
    }
    int before = now.columns.part(column, what);
    now.columns.change(column, what, v);
    return before;
  }

  public int of(int column, int what) {
    if (!isColumn(column) || !isWithin(what, 0, PARTS + 1)) {
      return refuse(BEYOND);
    }
    if (what < PARTS) {
      return now.columns.part(column, what);
    }
    return what == PARTS ? now.columns.top(column) : now.columns.bottom(column);
  }

  public int spring(int column, int what) {
    if (!isColumn(column) || !isWithin(what, 0, 2)) {
      return refuse(BEYOND);
    }
    switch (what) {
      case 0:
        return floatBits(now.columns.ideal(column));
      case 1:
        return floatBits(now.columns.flex(column, now.columns.ideal(column)));
      default:
        return floatBits(now.columns.rod(column));
    }
  }

  public int width(int v) {
    if (!isWithin(v, LEAST_WIDTH, MOST_WIDTH)) {
      return refuse(BEYOND);
    }
    int before = now.lineWidth;
    now.lineWidth = v;
    return before;
  }

  // ---- stretches

  public int force(int a, int b) {
    if (!isStretch(a, b)) {
      return refuse(BEYOND);
    }
    stretch.settle(now.columns, a, b, now.lineWidth);
    return floatBits(stretch.pull);
  }

  public int held(int a, int b) {
    if (!isStretch(a, b)) {
      return refuse(BEYOND);
    }
    stretch.settle(now.columns, a, b, now.lineWidth);
    return stretch.heldCount();
  }

  public int at(int a, int b, int i, int what) {
    if (!isStretch(a, b) || !isWithin(i, a, b) || !isWithin(what, 0, 2)) {
      return refuse(BEYOND);
    }
    stretch.settle(now.columns, a, b, now.lineWidth);
    switch (what) {
      case 0:
        return floatBits(stretch.length(i));
      case 1:
        return floatBits(stretch.place(i));
      default:
        return stretch.cell(i);
    }
  }

  public int bad(int a, int b) {
    if (!isStretch(a, b)) {
      return refuse(BEYOND);
    }
    stretch.take(now.columns, a, b, now.lineWidth);
    if (!stretch.fits()) {
      return refuse(NONE);
    }
    return floatBits(stretch.badness());
  }

  public int sky(int a, int b, int side, int cell) {
    if (!isStretch(a, b) || !isWithin(side, 0, 1) || !isWithin(cell, 0, CELLS - 1)) {
      return refuse(BEYOND);
    }
    traceLine(skyline, a, b);
    if (!skyline.hasInk(cell)) {
      return refuse(NONE);
    }
    return side == 0 ? skyline.upper(cell) : skyline.lower(cell);
  }

  public int apart(int a, int b, int c, int d) {
    if (!isStretch(a, b) || !isStretch(c, d)) {
      return refuse(BEYOND);
    }
    return distance(a, b, c, d);
  }

  // ---- lines

  public int lines() {
    findBest();
    return best.isFound ? best.lineCount : refuse(NONE);
  }

  public int line(int k, int what) {
    findBest();
    if (!best.isFound) {
      return refuse(NONE);
    }
    if (!isWithin(what, 0, 3) || !isWithin(k, 0, best.lineCount - (what == 3 ? 2 : 1))) {
      return refuse(BEYOND);
    }
    int first = best.first(k);
    int last = best.last(k);
    switch (what) {
      case 0:
        return first;
      case 1:
        return last;
      case 2:
        stretch.settle(now.columns, first, last, now.lineWidth);
        return stretch.cell(last);
      default:
        return distance(first, last, best.first(k + 1), best.last(k + 1));
    }
  }

  public int total() {
    findBest();
    return best.isFound ? floatBits(best.sum) : refuse(NONE);
  }

  public int moved(int column, int step, int duration) {
    boolean keepsDuration = duration == 0;
    if (!isColumn(column) || !isAllowed(ITS_STEP, step)
        || !keepsDuration && !isAllowed(ITS_DURATION, duration)) {
      return refuse(BEYOND);
    }
    otherColumns.become(now.columns);
    otherColumns.change(column, ITS_STEP, step);
    if (!keepsDuration) {
      otherColumns.change(column, ITS_DURATION, duration);
    }
    findBest();
    otherBest.find(otherColumns, now.columnCount, now.lineWidth);
    if (!best.isFound || !otherBest.isFound) {
      return refuse(NONE);
    }
    int movedLines = 0;
    for (int k = 0; k < best.lineCount; k++) {
      if (standsOtherwise(k)) {
        movedLines++;
      }
    }
    return movedLines;
  }

  // ---- beams, slurs

  public int beam(int a, int b, int what) {
    if (!isStretch(a, b) || !isWithin(what, 0, 3)) {
      return refuse(BEYOND);
    }
    if (a == b) {
      return refuse(STATE);
    }
    if (!areNotes(a, b)) {
      return refuse(KIND);
    }
    stretch.settle(now.columns, a, b, now.lineWidth);
    switch (what) {
      case 0:
        return floatBits(beamRise(a, b));
      case 1:
        return floatBits(beamSlope(a, b));
      case 2:
        return beamGoesUp(a, b) ? 1 : 0;
      default:
        return floatBits(beamLift(a, b));
    }
  }

  public int slur(int a, int b, int what) {
    if (!isStretch(a, b) || !isWithin(what, 0, 3)) {
      return refuse(BEYOND);
    }
    if (b - a < 2) {
      return refuse(STATE);
    }
    int above = slurHeight(a, b, true);
    int below = slurHeight(a, b, false);
    int side = below < above ? 1 : 0;
    if (what == 0) {
      return isHeight(above) || isHeight(below) ? side : refuse(NONE);
    }
    int height = what == 2 || what == 1 && side == 0 ? above : below;
    return isHeight(height) ? height : refuse(NONE);
  }

  // ---- texts, shelves

  public int feed(int b) {
    if (!isWithin(b, 0, 255)) {
      return refuse(BEYOND);
    }
    if (tape.size >= TAPE_BYTES) {
      return refuse(FULL);
    }
    tape.append(b);
    return tape.size;
  }

  public int music() {
    int fault = tape.readMusic();
    if (fault != NO_FAULT) {
      tape.size = 0;
      return FAULT_AT_0 - fault;
    }
    if (tape.signCount > MOST_COLUMNS) {
      return refuse(FULL);
    }
    tape.size = 0;
    now.columns.become(tape.signs);
    now.columnCount = tape.signCount;
    return now.columnCount;
  }

  public int shelf(int shelf, int kind, int n) {
    boolean isKind = kind == MISSING || isAllowed(ITS_KIND, kind);
    if (!isWithin(shelf, 0, SHELVES - 1) || !isKind || !isWithin(n, 0, MOST_ON_SHELF)) {
      return refuse(BEYOND);
    }
    now.clearShelf(shelf, kind, n);
    return 1;
  }

  public int store(int shelf, int i, int column) {
    if (!isWithin(shelf, 0, SHELVES - 1) || !isColumn(column)) {
      return refuse(BEYOND);
    }
    if (!now.hasPlace(shelf, i)) {
      return refuse(LOST);
    }
    if (now.shelfKind(shelf) != now.columns.part(column, ITS_KIND)) {
      return refuse(KIND);
    }
    now.onShelves.copySign(Page.place(shelf, i), now.columns, column);
    return 1;
  }

  public int fetch(int shelf, int i, int what) {
    if (!isWithin(shelf, 0, SHELVES - 1) || !isWithin(what, 0, 3)) {
      return refuse(BEYOND);
    }
    if (!now.hasPlace(shelf, i)) {
      return refuse(LOST);
    }
    int place = Page.place(shelf, i);
    if (now.onShelves.isMissing(place)) {
      return refuse(NONE);
    }
    return what == 3 ? now.onShelves.top(place) : now.onShelves.part(place, what);
  }

  public int comes(int shelf, int i) {
    if (!isWithin(shelf, 0, SHELVES - 1)) {
      return refuse(BEYOND);
    }
    if (!now.hasPlace(shelf, i)) {
      return refuse(LOST);
    }
    int place = Page.place(shelf, i);
    if (now.onShelves.isMissing(place)) {
      return refuse(NONE);
    }
    if (now.columnCount >= MOST_COLUMNS) {
      return refuse(FULL);
    }
    int column = now.columnCount;
    now.columns.copySign(column, now.onShelves, place);
    now.columnCount = column + 1;
    return column;
  }

  // ---- sheets, images, what is told

  public int sheet(int sheet, int sort, int n) {
    if (!isWithin(sheet, 0, SHEETS - 1) || !isWithin(sort, MISSING, INTS)) {
      return refuse(BEYOND);
    }
    if (sort == MISSING) {
      sheets.clear(sheet, MISSING, 0);
      return 1;
    }
    if (n < 0) {
      return refuse(STATE);
    }
    if (n > MOST_ON_SHEET) {
      return refuse(BEYOND);
    }
    sheets.clear(sheet, sort, n);
    return 1;
  }

  public int put(int sheet, int i, long v, int k) {
    if (!isWithin(sheet, 0, SHEETS - 1) || !isWithin(k, 0, MOST_POWER)) {
      return refuse(BEYOND);
    }
    if (!sheets.hasNumber(sheet, i)) {
      return refuse(LOST);
    }
    sheets.scale(sheet, i, v, k);
    return 1;
  }

  public long bits(int sheet, int i) {
    if (!isWithin(sheet, 0, SHEETS - 1)) {
      return refuseLong(BEYOND);
    }
    if (!sheets.hasNumber(sheet, i)) {
      return refuseLong(LOST);
    }
    return sheets.number(sheet, i);
  }

  public int cast(int sheet, int i) {
    if (!isWithin(sheet, 0, SHEETS - 1)) {
      return refuse(BEYOND);
    }
    if (!sheets.hasNumber(sheet, i)) {
      return refuse(LOST);
    }
    return sheets.asInt(sheet, i);
  }

  public int rest(int sheet, int i, int j) {
    if (!isWithin(sheet, 0, SHEETS - 1)) {
      return refuse(BEYOND);
    }
    if (!sheets.hasNumber(sheet, i) || !sheets.hasNumber(sheet, j)) {
      return refuse(LOST);
    }
    if (sheets.isNought(sheet, j)) {
      return refuse(NOUGHT);
    }
    sheets.reduce(sheet, i, j);
    return 1;
  }

  public int lays(int sheet, int a, int b) {
    if (!isWithin(sheet, 0, SHEETS - 1) || !isStretch(a, b)) {
      return refuse(BEYOND);
    }
    if (sheets.sort(sheet) == MISSING) {
      return refuse(LOST);
    }
    stretch.settle(now.columns, a, b, now.lineWidth);
    int laid = 0;
    for (int i = a; i <= b && sheets.hasNumber(sheet, laid); i++) {
      sheets.layFloat(sheet, laid, stretch.place(i));
      laid++;
    }
    return laid;
  }

  public int image() {
    kept.become(now);
    hasImage = true;
    return kept.columnCount;
  }

  public int restore() {
    if (!hasImage) {
      return refuse(NONE);
    }
    now.become(kept);
    return now.columnCount;
  }

  public int count(int what) {
    switch (what) {
      case 0:
        return now.columnCount;
      case 1:
        return now.lineWidth;
      case 2:
        return tape.size;
      case 3:
        return countNotes();
      case 4:
        return sumDurations();
      case 5:
        return now.countOnShelves();
      default:
        return refuse(BEYOND);
    }
  }

  public int told(int k) {
    return isWithin(k, BEYOND, LOST) ? readInt(refusals, k) : refuse(BEYOND);
  }

  // ---- what the calls share

  // An answer's value can't tell an ERROR from BITS, so ERRORS are counted where they arise.
  private int refuse(int error) {
    writeInt(refusals, error, readInt(refusals, error) + 1);
    return LOW - error;
  }

  private long refuseLong(int error) {
    refuse(error);
    return LOW_OF_LONGS - error;
  }

  private boolean isColumn(int column) {
    return column >= 0 && column < now.columnCount;
  }

  private boolean isStretch(int a, int b) {
    return a >= 0 && a <= b && b < now.columnCount;
  }

  private void findBest() {
    best.find(now.columns, now.columnCount, now.lineWidth);
  }

  private void traceLine(Skyline line, int a, int b) {
    if (line == null) {
      return;
    }
    stretch.settle(now.columns, a, b, now.lineWidth);
    line.trace(now.columns, stretch);
  }

  private int distance(int a, int b, int c, int d) {
    traceLine(skyline, a, b);
    traceLine(nextSkyline, c, d);
    int least = LEAST_APART;
    for (int cell = 0; cell < CELLS; cell++) {
      if (skyline.hasInk(cell) && nextSkyline.hasInk(cell)) {
        least = Math.max(least, nextSkyline.upper(cell) - skyline.lower(cell) + 2);
      }
    }
    return least;
  }

  private boolean standsOtherwise(int k) {
    int first = best.first(k);
    int last = best.last(k);
    if (k >= otherBest.lineCount || first != otherBest.first(k) || last != otherBest.last(k)) {
      return true;
    }
    stretch.settle(now.columns, first, last, now.lineWidth);
    otherStretch.settle(otherColumns, first, last, now.lineWidth);
    for (int i = first; i <= last; i++) {
      if (stretch.place(i) != otherStretch.place(i)) {
        return true;
      }
    }
    return false;
  }

  private boolean areNotes(int a, int b) {
    for (int i = a; i <= b; i++) {
      if (now.columns.part(i, ITS_KIND) != NOTE) {
        return false;
      }
    }
    return true;
  }

  private float beamRise(int a, int b) {
    int climb = now.columns.part(b, ITS_STEP) - now.columns.part(a, ITS_STEP);
    float reach = stretch.place(b);
    return reach > 0 ? (float) climb * 0.5f / reach : 0;
  }

  private float beamSlope(int a, int b) {
    float quarters = beamRise(a, b) * 4 + 0.5f;
    int whole = (int) quarters;
    // A cast cuts towards 0, which of numbers below 0 is one too many.
    if ((float) whole > quarters) {
      whole--;
    }
    float slope = (float) whole / 4;
    if (slope < -0.5f) {
      return -0.5f;
    }
    return slope > 0.5f ? 0.5f : slope;
  }

  private boolean beamGoesUp(int a, int b) {
    int steps = 0;
    for (int i = a; i <= b; i++) {
      steps += now.columns.part(i, ITS_STEP);
    }
    return steps < 0;
  }

  private float beamLift(int a, int b) {
    boolean up = beamGoesUp(a, b);
    float slope = beamSlope(a, b);
    float tilt = up ? slope : 0 - slope;
    float greatest = 0;
    for (int i = a; i <= b; i++) {
      float step = (float) now.columns.part(i, ITS_STEP);
      float side = up ? step : 0 - step;
      float drop = side - tilt * (stretch.place(i) - stretch.place(b)) * 2;
      greatest = i == a || drop > greatest ? drop : greatest;
    }
    return greatest + 5;
  }

  private int slurHeight(int a, int b, boolean above) {
    int ends = Math.max(inkTowards(a, above), inkTowards(b, above));
    int between = b - a - 1;
    int height = 0;
    for (int i = 1; i <= between; i++) {
      int bow = Math.min(2 * Math.min(i, between + 1 - i), 6);
      height = Math.max(height, inkTowards(a + i, above) + 1 - ends - bow);
    }
    return height;
  }

  private int inkTowards(int column, boolean above) {
    return above ? now.columns.top(column) : 0 - now.columns.bottom(column);
  }

  private int countNotes() {
    int notes = 0;
    for (int i = 0; i < now.columnCount; i++) {
      if (now.columns.part(i, ITS_KIND) == NOTE) {
        notes++;
      }
    }
    return notes;
  }

  private int sumDurations() {
    int sum = 0;
    for (int i = 0; i < now.columnCount; i++) {
      if (now.columns.part(i, ITS_KIND) != BAR) {
        sum += now.columns.part(i, ITS_DURATION);
      }
    }
    return sum;
  }

  private static boolean isHeight(int height) {
    return isWithin(height, 0, MOST_HEIGHT);
  }

  private static boolean isWithin(int v, int least, int most) {
    return v >= least && v <= most;
  }

  private static boolean isAllowed(int what, int v) {
    return isWithin(v, readInt(LEAST, what), readInt(MOST, what));
  }

  private static int floatBits(float x) {
    return (int) Point.encode(FLOATS, (double) x);
  }

  // Every row is read and written through these, so that no index goes unlooked at.

  private static int readInt(int[] row, int i) {
    return row != null && i >= 0 && i < row.length ? row[i] : 0;
  }

  private static void writeInt(int[] row, int i, int v) {
    if (row != null && i >= 0 && i < row.length) {
      row[i] = v;
    }
  }

  private static float readFloat(float[] row, int i) {
    return row != null && i >= 0 && i < row.length ? row[i] : 0;
  }

  private static void writeFloat(float[] row, int i, float v) {
    if (row != null && i >= 0 && i < row.length) {
      row[i] = v;
    }
  }

  private static long readLong(long[] row, int i) {
    return row != null && i >= 0 && i < row.length ? row[i] : 0;
  }

  private static void writeLong(long[] row, int i, long v) {
    if (row != null && i >= 0 && i < row.length) {
      row[i] = v;
    }
  }

  private static boolean readFlag(boolean[] row, int i) {
    return row != null && i >= 0 && i < row.length && row[i];
  }

  private static void writeFlag(boolean[] row, int i, boolean v) {
    if (row != null && i >= 0 && i < row.length) {
      row[i] = v;
    }
  }

  private static void copy(int[] from, int[] to) {
    if (from == null || to == null) {
      return;
    }
    for (int i = 0; i < from.length && i < to.length; i++) {
      to[i] = from[i];
    }
  }

  /** A row of SIGNS: all parts of one stand beside each other. */
  private static final class Signs {
    private final int[] parts = new int[PLACES * PARTS];

    int part(int sign, int what) {
      int i = sign * PARTS + what;
      return what >= 0 && what < PARTS && i >= 0 && i < parts.length ? parts[i] : 0;
    }

    void change(int sign, int what, int v) {
      int i = sign * PARTS + what;
      if (what >= 0 && what < PARTS && i >= 0 && i < parts.length) {
        parts[i] = v;
      }
    }

    void lay(int sign, int kind, int duration, int step, int wide, int adorn) {
      change(sign, ITS_KIND, kind);
      change(sign, ITS_DURATION, duration);
      change(sign, ITS_STEP, step);
      change(sign, ITS_WIDE, wide);
      change(sign, ITS_ADORN, adorn);
    }

    void clear(int sign) {
      lay(sign, MISSING, 0, 0, 0, 0);
    }

    boolean isMissing(int sign) {
      return part(sign, ITS_KIND) == MISSING;
    }

    void copySign(int sign, Signs from, int other) {
      if (from == null) {
        return;
      }
      for (int what = 0; what < PARTS; what++) {
        change(sign, what, from.part(other, what));
      }
    }

    void become(Signs other) {
      if (other != null) {
        copy(other.parts, parts);
      }
    }

    int top(int sign) {
      int step = part(sign, ITS_STEP);
      int adorn = part(sign, ITS_ADORN);
      switch (part(sign, ITS_KIND)) {
        case NOTE:
          return (step < 0 ? step + 7 : step + 1) + adorn;
        case REST:
          return 3 + adorn;
        default:
          return 4 + adorn;
      }
    }

    int bottom(int sign) {
      int step = part(sign, ITS_STEP);
      switch (part(sign, ITS_KIND)) {
        case NOTE:
          return step < 0 ? step - 1 : step - 7;
        case REST:
          return -3;
        default:
          return -4;
      }
    }

    float ideal(int sign) {
      if (part(sign, ITS_KIND) == BAR) {
        return 3;
      }
      int duration = part(sign, ITS_DURATION);
      int exponent = 0;
      for (int e = 1; e <= 6; e++) {
        if (1 << e <= duration) {
          exponent = e;
        }
      }
      float beyondPower = (float) duration / (float) (1 << exponent) - 1;
      return 6 * (1 + 0.5f * ((float) exponent + beyondPower));
    }

    float flex(int sign, float ideal) {
      return part(sign, ITS_KIND) == BAR ? 0.25f : 0.5f * ideal;
    }

    float rod(int sign) {
      return (float) (part(sign, ITS_WIDE) + 1);
    }
  }

  /** What an IMAGE keeps: COLUMNS, WIDTH, SHELVES. */
  private static final class Page {
    private final Signs columns = new Signs();
    private int columnCount = 0;
    private int lineWidth = WIDTH_AT_FIRST;
    private final Signs onShelves = new Signs();
    private final int[] shelfKinds = {MISSING, MISSING, MISSING};
    private final int[] shelfSizes = {0, 0, 0};

    static int place(int shelf, int i) {
      return shelf * MOST_ON_SHELF + i;
    }

    int shelfKind(int shelf) {
      return readInt(shelfKinds, shelf);
    }

    boolean hasPlace(int shelf, int i) {
      return shelfKind(shelf) != MISSING && i >= 0 && i < readInt(shelfSizes, shelf);
    }

    void clearShelf(int shelf, int kind, int n) {
      writeInt(shelfKinds, shelf, kind);
      writeInt(shelfSizes, shelf, kind == MISSING ? 0 : n);
      for (int i = 0; i < MOST_ON_SHELF; i++) {
        onShelves.clear(place(shelf, i));
      }
    }

    int countOnShelves() {
      int signs = 0;
      for (int shelf = 0; shelf < SHELVES; shelf++) {
        for (int i = 0; hasPlace(shelf, i) && i < MOST_ON_SHELF; i++) {
          if (!onShelves.isMissing(place(shelf, i))) {
            signs++;
          }
        }
      }
      return signs;
    }

    void become(Page other) {
      if (other == null) {
        return;
      }
      columns.become(other.columns);
      columnCount = other.columnCount;
      lineWidth = other.lineWidth;
      onShelves.become(other.onShelves);
      copy(other.shelfKinds, shelfKinds);
      copy(other.shelfSizes, shelfSizes);
    }
  }

  /** A STRETCH of COLUMNS: its springs and rods, and where they stand on a line. */
  private static final class Stretch {
    private final float[] ideals = new float[MOST_COLUMNS];
    private final float[] flexes = new float[MOST_COLUMNS];
    private final float[] rods = new float[MOST_COLUMNS];
    private final boolean[] areHeld = new boolean[MOST_COLUMNS];
    private final float[] lengths = new float[MOST_COLUMNS];
    private final float[] places = new float[MOST_COLUMNS];
    private int first = 0;
    private int size = 0;
    private float lineWidth = 0;
    private float pull = 0;

    void take(Signs columns, int a, int b, int width) {
      first = a;
      size = 0;
      lineWidth = (float) width;
      if (columns == null) {
        return;
      }
      for (int i = a; i <= b && size < MOST_COLUMNS; i++) {
        float ideal = columns.ideal(i);
        writeFloat(ideals, size, ideal);
        writeFloat(flexes, size, columns.flex(i, ideal));
        writeFloat(rods, size, columns.rod(i));
        size++;
      }
    }

    boolean fits() {
      return sum(rods) <= lineWidth;
    }

    float badness() {
      float flex = sum(flexes);
      float q = flex > 0 ? (lineWidth - sum(ideals)) / flex : 0;
      float badness = 100 * q * q;
      return q < 0 ? badness * 2 : badness;
    }

    void settle(Signs columns, int a, int b, int width) {
      take(columns, a, b, width);
      for (int i = 0; i < size; i++) {
        writeFlag(areHeld, i, false);
      }
      boolean isDone = false;
      // Each round but the last holds one more at least.
      for (int round = 0; round <= MOST_COLUMNS && !isDone; round++) {
        pull = balance();
        isDone = !holdMore();
      }
      float place = 0;
      for (int i = 0; i < size; i++) {
        writeFloat(lengths, i, readFlag(areHeld, i) ? readFloat(rods, i) : stretched(i));
        writeFloat(places, i, place);
        place = place + readFloat(lengths, i);
      }
    }

    int heldCount() {
      int count = 0;
      for (int i = 0; i < size; i++) {
        if (readFlag(areHeld, i)) {
          count++;
        }
      }
      return count;
    }

    float length(int column) {
      return readFloat(lengths, column - first);
    }

    float place(int column) {
      return readFloat(places, column - first);
    }

    int cell(int column) {
      return (int) place(column);
    }

    private float sum(float[] row) {
      float sum = 0;
      for (int i = 0; i < size; i++) {
        sum = sum + readFloat(row, i);
      }
      return sum;
    }

    private float balance() {
      float rod = 0;
      float ideal = 0;
      float flex = 0;
      for (int i = 0; i < size; i++) {
        if (readFlag(areHeld, i)) {
          rod = rod + readFloat(rods, i);
        } else {
          ideal = ideal + readFloat(ideals, i);
          flex = flex + readFloat(flexes, i);
        }
      }
      // No FLEX is 0: their SUM is it only if all are HELD.
      return flex > 0 ? (lineWidth - rod - ideal) / flex : 0;
    }

    private boolean holdMore() {
      boolean more = false;
      for (int i = 0; i < size; i++) {
        if (!readFlag(areHeld, i) && stretched(i) < readFloat(rods, i)) {
          writeFlag(areHeld, i, true);
          more = true;
        }
      }
      return more;
    }

    private float stretched(int i) {
      return readFloat(ideals, i) + pull * readFloat(flexes, i);
    }
  }

  /** The SKYLINE of a STRETCH, both sides. */
  private static final class Skyline {
    private final boolean[] inked = new boolean[CELLS];
    private final int[] uppers = new int[CELLS];
    private final int[] lowers = new int[CELLS];

    void trace(Signs columns, Stretch stretch) {
      for (int cell = 0; cell < CELLS; cell++) {
        writeFlag(inked, cell, false);
      }
      if (columns == null || stretch == null) {
        return;
      }
      for (int i = 0; i < stretch.size; i++) {
        int column = stretch.first + i;
        int cell = stretch.cell(column);
        int end = Math.min(cell + columns.part(column, ITS_WIDE), CELLS);
        ink(cell, end, columns.top(column), columns.bottom(column));
      }
    }

    boolean hasInk(int cell) {
      return readFlag(inked, cell);
    }

    int upper(int cell) {
      return readInt(uppers, cell);
    }

    int lower(int cell) {
      return readInt(lowers, cell);
    }

    private void ink(int from, int end, int top, int bottom) {
      for (int cell = from; cell < end; cell++) {
        boolean isFirst = !hasInk(cell);
        writeInt(uppers, cell, isFirst ? top : Math.max(top, upper(cell)));
        writeInt(lowers, cell, isFirst ? bottom : Math.min(bottom, lower(cell)));
        writeFlag(inked, cell, true);
      }
    }
  }

  /** The BEST way to break COLUMNS into lines; place p is ahead of COLUMN p. */
  private static final class Best {
    private static final int NO_WAY = -1;

    private final int[] before = new int[MOST_COLUMNS + 1];
    private final float[] totals = new float[MOST_COLUMNS + 1];
    private final int[] starts = new int[MOST_COLUMNS + 1];
    private final Stretch trial = new Stretch();
    private int lineCount = 0;
    private boolean isFound = false;
    private float sum = 0;

    void find(Signs columns, int count, int width) {
      isFound = false;
      if (columns == null) {
        return;
      }
      writeInt(before, 0, 0);
      writeFloat(totals, 0, 0f);
      for (int place = 1; place <= count; place++) {
        writeInt(before, place, NO_WAY);
        if (place == count || columns.part(place - 1, ITS_KIND) == BAR) {
          reach(place, columns, width);
        }
      }
      isFound = readInt(before, count) != NO_WAY;
      sum = readFloat(totals, count);
      traceBack(count);
    }

    int first(int k) {
      return readInt(starts, k);
    }

    int last(int k) {
      return readInt(starts, k + 1) - 1;
    }

    private void reach(int place, Signs columns, int width) {
      for (int from = 0; from < place; from++) {
        if (readInt(before, from) == NO_WAY) {
          continue;
        }
        trial.take(columns, from, place - 1, width);
        if (!trial.fits()) {
          continue;
        }
        float total = readFloat(totals, from) + trial.badness();
        if (readInt(before, place) == NO_WAY || total < readFloat(totals, place)) {
          writeInt(before, place, from);
          writeFloat(totals, place, total);
        }
      }
    }

    private void traceBack(int count) {
      lineCount = 0;
      if (!isFound) {
        return;
      }
      for (int p = count; p > 0 && lineCount < MOST_COLUMNS; p = readInt(before, p)) {
        lineCount++;
      }
      int place = count;
      for (int k = lineCount; k >= 0; k--) {
        writeInt(starts, k, place);
        place = readInt(before, place);
      }
    }
  }

  /** THE TAPE, and the SIGNS that are read from it. */
  private static final class Tape {
    private final int[] bytes = new int[TAPE_BYTES];
    private int size = 0;
    private final Signs signs = new Signs();
    private int signCount = 0;
    private int next = 0;

    void append(int b) {
      if (size < TAPE_BYTES) {
        writeInt(bytes, size, b);
        size++;
      }
    }

    /** The place of the FAULT, or NO_FAULT. */
    int readMusic() {
      next = 0;
      signCount = 0;
      for (int round = 0; round < TAPE_BYTES; round++) {
        if (!readSign()) {
          return next;
        }
        if (next >= size) {
          return NO_FAULT;
        }
        if (!isNext(' ')) {
          return next;
        }
        next++;
      }
      return next;
    }

    private boolean isNext(char sign) {
      return next < size && readInt(bytes, next) == sign;
    }

    // Where reading fails, next stays at the byte with which no TEXT goes on.
    private boolean readSign() {
      int kind = isNext('n') ? NOTE : isNext('r') ? REST : isNext('b') ? BAR : MISSING;
      if (kind == MISSING) {
        return false;
      }
      next++;
      int duration = kind == BAR ? 1 : readNumber(1, 64);
      if (duration == MISSING) {
        return false;
      }
      int step = 0;
      if (kind == NOTE && (isNext('+') || isNext('-'))) {
        boolean above = isNext('+');
        next++;
        int away = above ? readNumber(0, 20) : readNumber(1, 12);
        if (away == MISSING) {
          return false;
        }
        step = above ? away : 0 - away;
      }
      keep(kind, duration, step, readAdorn());
      return true;
    }

    private int readNumber(int least, int most) {
      int number = digit();
      if (number == MISSING || number < least) {
        return MISSING;
      }
      next++;
      // Behind a 0 no digit may stand: what comes next finds it as a FAULT.
      for (int round = 0; round < TAPE_BYTES && number > 0 && digit() != MISSING; round++) {
        number = number * 10 + digit();
        if (number > most) {
          return MISSING;
        }
        next++;
      }
      return number;
    }

    private int digit() {
      int b = next < size ? readInt(bytes, next) : 0;
      return b >= '0' && b <= '9' ? b - '0' : MISSING;
    }

    private int readAdorn() {
      int adorn = 0;
      while (adorn < 9 && isNext('\'')) {
        adorn++;
        next++;
      }
      return adorn;
    }

    // A TEXT may hold more SIGNS than there is room for: they are counted all the same.
    private void keep(int kind, int duration, int step, int adorn) {
      if (signCount < MOST_COLUMNS) {
        signs.lay(signCount, kind, duration, step, WIDE_AT_FIRST, adorn);
      }
      signCount++;
    }
  }

  /** SHEETS: numbers with a point are held by their BITS, whole ones as they are. */
  private static final class Sheets {
    private final int[] sorts = {MISSING, MISSING, MISSING, MISSING};
    private final int[] sizes = {0, 0, 0, 0};
    private final long[] numbers = new long[SHEETS * MOST_ON_SHEET];

    int sort(int sheet) {
      return readInt(sorts, sheet);
    }

    boolean hasNumber(int sheet, int i) {
      return sort(sheet) != MISSING && i >= 0 && i < readInt(sizes, sheet);
    }

    void clear(int sheet, int sort, int n) {
      writeInt(sorts, sheet, sort);
      writeInt(sizes, sheet, n);
      for (int i = 0; i < MOST_ON_SHEET; i++) {
        change(sheet, i, 0);
      }
    }

    long number(int sheet, int i) {
      return readLong(numbers, sheet * MOST_ON_SHEET + i);
    }

    void scale(int sheet, int i, long v, int k) {
      double power = (double) (1 << k);
      switch (sort(sheet)) {
        case FLOATS:
          change(sheet, i, floatBits((float) v / (float) power));
          break;
        case DOUBLES:
          change(sheet, i, Point.encode(DOUBLES, (double) v / power));
          break;
        case SHORTS:
          change(sheet, i, (short) v);
          break;
        default:
          change(sheet, i, (int) v);
      }
    }

    void layFloat(int sheet, int i, float v) {
      switch (sort(sheet)) {
        case FLOATS:
          change(sheet, i, floatBits(v));
          break;
        case DOUBLES:
          change(sheet, i, Point.encode(DOUBLES, (double) v));
          break;
        case SHORTS:
          change(sheet, i, (short) (int) v);
          break;
        default:
          change(sheet, i, (int) v);
      }
    }

    int asInt(int sheet, int i) {
      int sort = sort(sheet);
      long number = number(sheet, i);
      if (sort == SHORTS || sort == INTS) {
        return (int) number;
      }
      double size = Point.size(sort, number);
      return (int) (number < 0 ? 0 - size : size);
    }

    boolean isNought(int sheet, int i) {
      int sort = sort(sheet);
      long number = number(sheet, i);
      return sort == SHORTS || sort == INTS ? number == 0 : Point.size(sort, number) == 0;
    }

    void reduce(int sheet, int i, int j) {
      int sort = sort(sheet);
      long number = number(sheet, i);
      long by = number(sheet, j);
      if (sort == FLOATS || sort == DOUBLES) {
        double left = Point.remainder(Point.size(sort, number), Point.size(sort, by));
        change(sheet, i, Point.withSign(sort, Point.encode(sort, left), number < 0));
      } else if (by != 0) {
        change(sheet, i, number % by);
      }
    }

    private void change(int sheet, int i, long number) {
      writeLong(numbers, sheet * MOST_ON_SHEET + i, number);
    }
  }

  /** Numbers with a point told by their bits; none here is too small or large for its sort. */
  private static final class Point {
    private static final int MOST_POWERS = 1100;

    /** BITS of x, of which 0 has no sign. */
    static long encode(int sort, double x) {
      if (x == 0) {
        return 0;
      }
      int fractionBits = fractionBits(sort);
      long hidden = 1L << fractionBits;
      double low = (double) hidden;
      double size = x < 0 ? -x : x;
      int exponent = fractionBits;
      for (int i = 0; i < MOST_POWERS && size >= low * 2; i++) {
        size = size / 2;
        exponent++;
      }
      for (int i = 0; i < MOST_POWERS && size < low; i++) {
        size = size * 2;
        exponent--;
      }
      long exponentPart = (long) (exponent + bias(sort)) << fractionBits;
      return withSign(sort, exponentPart + ((long) size - hidden), x < 0);
    }

    /** What BITS tell, without the sign. */
    static double size(int sort, long bits) {
      int fractionBits = fractionBits(sort);
      long magnitude = bits & (signBit(sort) - 1);
      if (magnitude == 0) {
        return 0;
      }
      long hidden = 1L << fractionBits;
      double size = (double) (hidden + (magnitude & (hidden - 1)));
      int exponent = (int) (magnitude >> fractionBits) - bias(sort) - fractionBits;
      for (int i = 0; i < MOST_POWERS && i < exponent; i++) {
        size = size * 2;
      }
      for (int i = 0; i < MOST_POWERS && i < -exponent; i++) {
        size = size / 2;
      }
      return size;
    }

    /** BITS of a number of 32 bits are an int: its sign goes through all the long. */
    static long withSign(int sort, long bits, boolean isBelow) {
      if (!isBelow) {
        return bits;
      }
      long signed = bits | signBit(sort);
      return sort == FLOATS ? (long) (int) signed : signed;
    }

    /** What x (0 or more) leaves by y (above 0): each difference here is exact. */
    static double remainder(double x, double y) {
      if (!(y > 0)) {
        return 0;
      }
      double part = y;
      int doublings = 0;
      while (doublings < MOST_POWERS && part * 2 <= x) {
        part = part * 2;
        doublings++;
      }
      double left = x;
      for (int i = doublings; i >= 0; i--) {
        if (left >= part) {
          left = left - part;
        }
        part = part / 2;
      }
      return left;
    }

    private static int fractionBits(int sort) {
      return sort == FLOATS ? 23 : 52;
    }

    private static int bias(int sort) {
      return sort == FLOATS ? 127 : 1023;
    }

    private static long signBit(int sort) {
      return sort == FLOATS ? 1L << 31 : 1L << 63;
    }
  }
}
