/**
 * Every ERROR that an act can answer: which one it is where several would do, that told() has it,
 * and that nothing else changes ("one that answers an ERROR changes nothing but what told() tells").
 */
public final class RefusalsTest {
  private static final Due due = new Due();
  private static final int BEYOND = 1;
  private static final int NONE = 2;
  private static final int STATE = 3;
  private static final int FULL = 4;
  private static final int KIND = 5;
  private static final int NOUGHT = 6;
  private static final int LOST = 7;

  private interface Act {
    long on(EngravedLines x);
  }

  private interface Start {
    EngravedLines make();
  }

  public static void main(String[] args) {
    columns();
    stretches();
    lines();
    beamsAndSlurs();
    texts();
    shelves();
    comes();
    sheets();
    numbers();
    imagesAndCounts();
    inTheirOrder();
    inTheirOrderOfSheets();
    readingChangesNothing();
    toldOfLongs();
    due.end();
  }

  // ---- where the acts begin

  private static EngravedLines fresh() {
    return new EngravedLines();
  }

  /** Four COLUMNS; SHELVES of two places, of none, missing; four SHEETS, one missing; an IMAGE. */
  private static EngravedLines usual() {
    EngravedLines x = Due.read("n3-7' r9");
    x.width(50);
    x.shelf(1, 1, 3);
    x.store(1, 0, 1);
    x.image();
    Due.feed(x, "n7+5'' r3 b n64-3");
    x.music();
    x.set(0, 3, 9);
    x.width(99);
    x.shelf(0, 0, 2);
    x.store(0, 1, 0);
    x.shelf(1, 1, 0);
    for (int sort = 0; sort < 3; sort++) {
      x.sheet(sort, sort, 3);
      x.put(sort, 0, 7 + sort, 1);
      x.put(sort, 2, -5, 0);
    }
    Due.feed(x, "n9 r");
    return x;
  }

  private static EngravedLines with32Columns() {
    EngravedLines x = new EngravedLines();
    x.shelf(0, 0, 2);
    for (int i = 0; i < 32; i++) {
      x.add(i % 3, 1 + i);
    }
    x.store(0, 0, 0);
    return x;
  }

  private static EngravedLines withFullTape() {
    return Due.fed("b ".repeat(79) + "b'");
  }

  private static EngravedLines with33Signs() {
    EngravedLines x = Due.read("n5-3");
    Due.feed(x, "b ".repeat(32) + "r1");
    return x;
  }

  /** Two COLUMNS that don't go on one line, none of which ends one. */
  private static EngravedLines withoutWay() {
    EngravedLines x = Due.read("n1 n1");
    x.set(0, 3, 12);
    x.set(1, 3, 12);
    x.width(20);
    return x;
  }

  // ---- what is tested of each

  private static int[] outside(int least, int most) {
    return new int[] {least - 1, most + 1, Integer.MIN_VALUE, Integer.MAX_VALUE};
  }

  private static int[] toldOf(EngravedLines x) {
    int[] told = new int[8];
    for (int k = 1; k < 8; k++) {
      told[k] = x.told(k);
    }
    return told;
  }

  private static void answers(String call, long want, int k, Start start, Act act) {
    EngravedLines x = start.make();
    int[] before = toldOf(x);
    due.is(call, act.on(x), want);
    int[] after = toldOf(x);
    for (int i = 1; i < 8; i++) {
      due.is(call + ", then told(" + i + ")", after[i], before[i] + (i == k ? 1 : 0));
    }
    due.holds(call + " changes nothing", Seen.all(x).equals(Seen.all(start.make())));
  }

  private static void refuses(String call, int k, Start start, Act act) {
    answers(call, Due.LOW - k, k, start, act);
  }

  private static void refusesLong(String call, int k, Start start, Act act) {
    answers(call, -9000000000000000000L - k, k, start, act);
  }

  private static void usually(String call, int k, Act act) {
    refuses(call, k, RefusalsTest::usual, act);
  }

  // ---- promises 2 to 7

  private static void columns() {
    for (int v : outside(0, 2)) {
      usually("add(" + v + ", 1)", BEYOND, x -> x.add(v, 1));
      usually("set(0, 0, " + v + ")", BEYOND, x -> x.set(0, 0, v));
      usually("spring(0, " + v + ")", BEYOND, x -> x.spring(0, v));
    }
    for (int v : outside(1, 64)) {
      usually("add(0, " + v + ")", BEYOND, x -> x.add(0, v));
      usually("add(2, " + v + ")", BEYOND, x -> x.add(2, v));
      usually("set(1, 1, " + v + ")", BEYOND, x -> x.set(1, 1, v));
    }
    for (int v : outside(0, 3)) {
      usually("set(" + v + ", 0, 0)", BEYOND, x -> x.set(v, 0, 0));
      usually("of(" + v + ", 0)", BEYOND, x -> x.of(v, 0));
      usually("spring(" + v + ", 0)", BEYOND, x -> x.spring(v, 0));
    }
    for (int v : outside(0, 4)) {
      usually("set(0, " + v + ", 1)", BEYOND, x -> x.set(0, v, 1));
    }
    for (int v : outside(-12, 20)) {
      usually("set(0, 2, " + v + ")", BEYOND, x -> x.set(0, 2, v));
    }
    for (int v : outside(1, 12)) {
      usually("set(0, 3, " + v + ")", BEYOND, x -> x.set(0, 3, v));
    }
    for (int v : outside(0, 9)) {
      usually("set(0, 4, " + v + ")", BEYOND, x -> x.set(0, 4, v));
    }
    for (int v : outside(0, 6)) {
      usually("of(3, " + v + ")", BEYOND, x -> x.of(3, v));
    }
    for (int v : outside(20, 380)) {
      usually("width(" + v + ")", BEYOND, x -> x.width(v));
    }
    refuses("add to 32", FULL, RefusalsTest::with32Columns, x -> x.add(0, 1));
    refuses("drop of none", NONE, RefusalsTest::fresh, x -> x.drop());
    refuses("set of none", BEYOND, RefusalsTest::fresh, x -> x.set(0, 0, 0));
    refuses("of of none", BEYOND, RefusalsTest::fresh, x -> x.of(0, 0));
    refuses("spring of none", BEYOND, RefusalsTest::fresh, x -> x.spring(0, 0));
  }

  // ---- promises 8 to 13

  private static void stretches() {
    int[][] none = {{-1, 0}, {0, 4}, {2, 1}, {4, 4}, {-1, -1}, {Integer.MIN_VALUE, 3},
        {0, Integer.MAX_VALUE}, {Integer.MAX_VALUE, Integer.MAX_VALUE},
        {Integer.MIN_VALUE, Integer.MIN_VALUE}, {3, Integer.MIN_VALUE}, {Integer.MAX_VALUE, 3}};
    for (int[] s : none) {
      int a = s[0];
      int b = s[1];
      String ab = "(" + a + ", " + b + ")";
      usually("force" + ab, BEYOND, x -> x.force(a, b));
      usually("held" + ab, BEYOND, x -> x.held(a, b));
      usually("at" + ab + " of its first", BEYOND, x -> x.at(a, b, a, 0));
      usually("at" + ab + " of its last", BEYOND, x -> x.at(a, b, b, 0));
      usually("bad" + ab, BEYOND, x -> x.bad(a, b));
      usually("sky" + ab, BEYOND, x -> x.sky(a, b, 0, 0));
      usually("apart" + ab + " and (0, 1)", BEYOND, x -> x.apart(a, b, 0, 1));
      usually("apart(0, 1) and " + ab, BEYOND, x -> x.apart(0, 1, a, b));
      usually("beam" + ab, BEYOND, x -> x.beam(a, b, 0));
      usually("slur" + ab, BEYOND, x -> x.slur(a, b, 0));
      usually("lays" + ab, BEYOND, x -> x.lays(0, a, b));
    }
    for (int v : outside(1, 2)) {
      usually("at(1, 2, " + v + ", 0)", BEYOND, x -> x.at(1, 2, v, 0));
    }
    for (int v : outside(0, 2)) {
      usually("at(0, 3, 1, " + v + ")", BEYOND, x -> x.at(0, 3, 1, v));
    }
    for (int v : outside(0, 1)) {
      usually("sky(0, 3, " + v + ", 0)", BEYOND, x -> x.sky(0, 3, v, 0));
    }
    for (int v : outside(0, 399)) {
      usually("sky(0, 3, 0, " + v + ")", BEYOND, x -> x.sky(0, 3, 0, v));
    }
    usually("sky where nothing is", NONE, x -> x.sky(0, 3, 1, 399));
    refuses("bad of too much", NONE, RefusalsTest::withoutWay, x -> x.bad(0, 1));
    refuses("force of none", BEYOND, RefusalsTest::fresh, x -> x.force(0, 0));
    refuses("bad of none", BEYOND, RefusalsTest::fresh, x -> x.bad(0, 0));
    refuses("apart of none", BEYOND, RefusalsTest::fresh, x -> x.apart(0, 0, 0, 0));
  }

  // ---- promises 14 to 17

  private static void lines() {
    for (int v : outside(0, 0)) {
      usually("line(" + v + ", 0)", BEYOND, x -> {
        x.width(380);
        int answer = x.line(v, 0);
        x.width(99);
        return answer;
      });
    }
    for (int v : outside(0, 3)) {
      usually("line(0, " + v + ")", BEYOND, x -> x.line(0, v));
      usually("moved(" + v + ", 0, 0)", BEYOND, x -> x.moved(v, 0, 0));
    }
    for (int v : outside(-12, 20)) {
      usually("moved(0, " + v + ", 0)", BEYOND, x -> x.moved(0, v, 0));
    }
    for (int v : outside(0, 64)) {
      usually("moved(0, 0, " + v + ")", BEYOND, x -> x.moved(0, 0, v));
    }
    refuses("line(0, 0) of none", BEYOND, RefusalsTest::fresh, x -> x.line(0, 0));
    refuses("moved of none", BEYOND, RefusalsTest::fresh, x -> x.moved(0, 0, 0));
    refuses("lines", NONE, RefusalsTest::withoutWay, x -> x.lines());
    refuses("line", NONE, RefusalsTest::withoutWay, x -> x.line(0, 0));
    refuses("total", NONE, RefusalsTest::withoutWay, x -> x.total());
    refuses("moved", NONE, RefusalsTest::withoutWay, x -> x.moved(1, 5, 9));
  }

  // ---- promises 18 and 19

  private static void beamsAndSlurs() {
    for (int v : outside(0, 3)) {
      usually("beam(0, 0, " + v + ")", BEYOND, x -> x.beam(0, 0, v));
      usually("slur(0, 3, " + v + ")", BEYOND, x -> x.slur(0, 3, v));
    }
    for (int what = 0; what < 4; what++) {
      int w = what;
      usually("beam(3, 3, " + w + ")", STATE, x -> x.beam(3, 3, w));
      usually("beam(0, 1, " + w + ")", KIND, x -> x.beam(0, 1, w));
      usually("slur(1, 1, " + w + ")", STATE, x -> x.slur(1, 1, w));
      usually("slur(2, 3, " + w + ")", STATE, x -> x.slur(2, 3, w));
    }
  }

  // ---- promises 20 and 21

  private static void texts() {
    for (int v : outside(0, 255)) {
      usually("feed(" + v + ")", BEYOND, x -> x.feed(v));
    }
    refuses("feed to 160", FULL, RefusalsTest::withFullTape, x -> x.feed('b'));
    refuses("feed(0) to 160", FULL, RefusalsTest::withFullTape, x -> x.feed(0));
    refuses("music of 80 SIGNS", FULL, RefusalsTest::withFullTape, x -> x.music());
    refuses("music of 33 SIGNS", FULL, RefusalsTest::with33Signs, x -> x.music());
  }

  // ---- promises 22 to 25

  private static void shelves() {
    for (int v : outside(0, 2)) {
      usually("shelf(" + v + ", 0, 1)", BEYOND, x -> x.shelf(v, 0, 1));
      usually("shelf(" + v + ", -1, 0)", BEYOND, x -> x.shelf(v, -1, 0));
      usually("store(" + v + ", 0, 0)", BEYOND, x -> x.store(v, 0, 0));
      usually("fetch(" + v + ", 1, 0)", BEYOND, x -> x.fetch(v, 1, 0));
      usually("comes(" + v + ", 1)", BEYOND, x -> x.comes(v, 1));
    }
    for (int v : outside(-1, 2)) {
      usually("shelf(0, " + v + ", 2)", BEYOND, x -> x.shelf(0, v, 2));
    }
    for (int v : outside(0, 12)) {
      usually("shelf(0, 0, " + v + ")", BEYOND, x -> x.shelf(0, 0, v));
      usually("shelf(0, -1, " + v + ")", BEYOND, x -> x.shelf(0, -1, v));
    }
    for (int v : outside(0, 3)) {
      usually("store(0, 0, " + v + ")", BEYOND, x -> x.store(0, 0, v));
      usually("fetch(0, 1, " + v + ")", BEYOND, x -> x.fetch(0, 1, v));
    }
    for (int v : outside(0, 1)) {
      usually("store(0, " + v + ", 0)", LOST, x -> x.store(0, v, 0));
      usually("fetch(0, " + v + ", 0)", LOST, x -> x.fetch(0, v, 0));
      usually("comes(0, " + v + ")", LOST, x -> x.comes(0, v));
    }
    usually("store, no place", LOST, x -> x.store(1, 0, 1));
    usually("store, missing", LOST, x -> x.store(2, 0, 2));
    usually("store of a REST", KIND, x -> x.store(0, 1, 1));
    usually("store of a BAR", KIND, x -> x.store(0, 0, 2));
    usually("fetch, no place", LOST, x -> x.fetch(1, 0, 0));
    usually("fetch, missing", LOST, x -> x.fetch(2, 0, 0));
  }

  private static void comes() {
    for (int what = 0; what < 4; what++) {
      int w = what;
      usually("fetch(0, 0, " + w + ")", NONE, x -> x.fetch(0, 0, w));
    }
    usually("comes, no place", LOST, x -> x.comes(1, 0));
    usually("comes, missing", LOST, x -> x.comes(2, 0));
    usually("comes, empty", NONE, x -> x.comes(0, 0));
    refuses("comes to 32", FULL, RefusalsTest::with32Columns, x -> x.comes(0, 0));
  }

  // ---- promises 26 to 31

  private static void sheets() {
    for (int v : outside(0, 3)) {
      usually("sheet(" + v + ", 0, 1)", BEYOND, x -> x.sheet(v, 0, 1));
      usually("sheet(" + v + ", -1, 0)", BEYOND, x -> x.sheet(v, -1, 0));
      usually("put(" + v + ", 0, 1, 0)", BEYOND, x -> x.put(v, 0, 1, 0));
      refusesLong("bits(" + v + ", 0)", BEYOND, RefusalsTest::usual, x -> x.bits(v, 0));
      usually("cast(" + v + ", 0)", BEYOND, x -> x.cast(v, 0));
      usually("rest(" + v + ", 0, 2)", BEYOND, x -> x.rest(v, 0, 2));
      usually("lays(" + v + ", 0, 3)", BEYOND, x -> x.lays(v, 0, 3));
    }
    for (int v : outside(-1, 3)) {
      usually("sheet(0, " + v + ", 3)", BEYOND, x -> x.sheet(0, v, 3));
    }
    for (int sort = 0; sort < 4; sort++) {
      int s = sort;
      usually("sheet(1, " + s + ", -1)", STATE, x -> x.sheet(1, s, -1));
      usually("sheet(1, " + s + ", MIN)", STATE, x -> x.sheet(1, s, Integer.MIN_VALUE));
      usually("sheet(1, " + s + ", 41)", BEYOND, x -> x.sheet(1, s, 41));
      usually("sheet(1, " + s + ", MAX)", BEYOND, x -> x.sheet(1, s, Integer.MAX_VALUE));
    }
    for (int v : outside(0, 20)) {
      for (int sheet = 0; sheet < 3; sheet++) {
        int s = sheet;
        usually("put(" + s + ", 0, 1, " + v + ")", BEYOND, x -> x.put(s, 0, 1, v));
      }
    }
    usually("lays to a missing one", LOST, x -> x.lays(3, 0, 3));
  }

  private static void numbers() {
    for (int sheet = 0; sheet < 4; sheet++) {
      int s = sheet;
      // Of the missing SHEET 3 no number is there, of the others all but 0 to 2.
      for (int v : s == 3 ? new int[] {0, 1, -1, 39} : outside(0, 2)) {
        usually("put(" + s + ", " + v + ", 1, 0)", LOST, x -> x.put(s, v, 1, 0));
        refusesLong("bits(" + s + ", " + v + ")", LOST, RefusalsTest::usual, x -> x.bits(s, v));
        usually("cast(" + s + ", " + v + ")", LOST, x -> x.cast(s, v));
        usually("rest(" + s + ", " + v + ", 0)", LOST, x -> x.rest(s, v, 0));
        usually("rest(" + s + ", 0, " + v + ")", LOST, x -> x.rest(s, 0, v));
      }
      if (s < 3) {
        usually("rest(" + s + ", 0, 1)", NOUGHT, x -> x.rest(s, 0, 1));
        usually("rest(" + s + ", 1, 1)", NOUGHT, x -> x.rest(s, 1, 1));
      }
    }
  }

  // ---- promises 33 to 35

  private static void imagesAndCounts() {
    refuses("restore of none", NONE, RefusalsTest::fresh, x -> x.restore());
    refuses("restore of none", NONE, RefusalsTest::with32Columns, x -> x.restore());
    for (int v : outside(0, 5)) {
      usually("count(" + v + ")", BEYOND, x -> x.count(v));
    }
    for (int v : outside(1, 7)) {
      usually("told(" + v + ")", BEYOND, x -> x.told(v));
    }
  }

  // ---- "Each act tells its ERRORS in the order in which they are asked"

  private static void inTheirOrder() {
    Start many = RefusalsTest::with32Columns;
    refuses("add of no KIND to 32", BEYOND, many, x -> x.add(3, 1));
    refuses("add of no DURATION to 32", BEYOND, many, x -> x.add(0, 65));
    refuses("feed(256) to 160", BEYOND, RefusalsTest::withFullTape, x -> x.feed(256));
    Start none = RefusalsTest::withoutWay;
    refuses("line(-1, 0) without a way", NONE, none, x -> x.line(-1, 0));
    refuses("line(0, 4) without a way", NONE, none, x -> x.line(0, 4));
    refuses("moved(2, ..) without a way", BEYOND, none, x -> x.moved(2, 0, 0));
    refuses("moved of no STEP without a way", BEYOND, none, x -> x.moved(0, 21, 0));
    refuses("moved of no DURATION without a way", BEYOND, none, x -> x.moved(0, 0, 65));
    usually("beam of one that is a REST", STATE, x -> x.beam(1, 1, 0));
    usually("beam(1, 1, 4)", BEYOND, x -> x.beam(1, 1, 4));
    usually("beam(1, 2, 4)", BEYOND, x -> x.beam(1, 2, 4));
    usually("slur(1, 2, 4)", BEYOND, x -> x.slur(1, 2, 4));
    usually("store of no COLUMN on a missing SHELF", BEYOND, x -> x.store(2, 0, 4));
    usually("store of no COLUMN to no place", BEYOND, x -> x.store(0, 2, -1));
    usually("store of another KIND to no place", LOST, x -> x.store(0, 2, 1));
    usually("store of another KIND on a missing SHELF", LOST, x -> x.store(2, 0, 1));
    usually("fetch(2, 0, 4) of a missing SHELF", BEYOND, x -> x.fetch(2, 0, 4));
    usually("fetch(0, 2, 4) of no place", BEYOND, x -> x.fetch(0, 2, 4));
    usually("fetch(0, 0, 4) of an empty place", BEYOND, x -> x.fetch(0, 0, 4));
    refuses("comes(3, 0) to 32", BEYOND, many, x -> x.comes(3, 0));
    refuses("comes of no place to 32", LOST, many, x -> x.comes(0, 2));
    refuses("comes of a missing SHELF to 32", LOST, many, x -> x.comes(1, 0));
    refuses("comes of an empty place to 32", NONE, many, x -> x.comes(0, 1));
  }

  private static void inTheirOrderOfSheets() {
    usually("sheet(4, 0, -1)", BEYOND, x -> x.sheet(4, 0, -1));
    usually("sheet(0, 4, -1)", BEYOND, x -> x.sheet(0, 4, -1));
    usually("put(3, 0, 1, 21) on a missing SHEET", BEYOND, x -> x.put(3, 0, 1, 21));
    usually("put(0, 3, 1, -1) of no number", BEYOND, x -> x.put(0, 3, 1, -1));
    usually("rest of no number by 0", LOST, x -> x.rest(0, 3, 1));
    usually("rest of no number by none", LOST, x -> x.rest(0, 3, 3));
    usually("lays of no STRETCH on a missing SHEET", BEYOND, x -> x.lays(3, 0, 4));
    usually("lays(4, 0, 4)", BEYOND, x -> x.lays(4, 0, 4));
  }

  // ---- acts that only tell

  private static void only(String call, Act act) {
    EngravedLines x = usual();
    int[] before = toldOf(x);
    due.holds(call + " is no ERROR", act.on(x) > -2000000000L);
    int[] after = toldOf(x);
    for (int k = 1; k < 8; k++) {
      due.is(call + ", then told(" + k + ")", after[k], before[k]);
    }
    due.holds(call + " changes nothing", Seen.all(x).equals(Seen.all(usual())));
  }

  private static void readingChangesNothing() {
    for (int what = 0; what < 7; what++) {
      int w = what;
      only("of(0, " + w + ")", x -> x.of(0, w));
      if (w < 6) {
        only("count(" + w + ")", x -> x.count(w));
      }
      if (w < 3) {
        only("spring(0, " + w + ")", x -> x.spring(0, w));
        only("at(0, 3, 3, " + w + ")", x -> x.at(0, 3, 3, w));
        only("line(0, " + w + ")", x -> x.line(0, w));
      }
      if (w < 4) {
        only("slur(0, 3, " + w + ")", x -> x.slur(0, 3, w));
        only("fetch(0, 1, " + w + ")", x -> x.fetch(0, 1, w));
      }
    }
    only("force(0, 3)", x -> x.force(0, 3));
    only("held(0, 3)", x -> x.held(0, 3));
    only("bad(0, 3)", x -> x.bad(0, 3));
    only("sky(0, 3, 1, 0)", x -> x.sky(0, 3, 1, 0));
    only("apart(0, 1, 2, 3)", x -> x.apart(0, 1, 2, 3));
    only("lines()", x -> x.lines());
    only("total()", x -> x.total());
    only("moved(0, -9, 33)", x -> x.moved(0, -9, 33));
    only("moved(2, 20, 1)", x -> x.moved(2, 20, 1));
    only("bits(0, 0)", x -> x.bits(0, 0));
    only("cast(1, 2)", x -> x.cast(1, 2));
    only("told(1)", x -> x.told(1));
  }

  /** "of longs likewise": ERRORS of bits() are counted with those of ints. */
  private static void toldOfLongs() {
    EngravedLines x = new EngravedLines();
    due.is("bits(4, 0)", x.bits(4, 0), Due.LONG_BEYOND);
    due.is("told(1)", x.told(1), 1);
    due.is("bits(0, 0)", x.bits(0, 0), Due.LONG_LOST);
    due.is("told(7)", x.told(7), 1);
    // An object is used for 512 calls: none of them is lost.
    for (int i = 0; i < 506; i++) {
      x.drop();
    }
    due.is("told(2)", x.told(2), 506);
    due.is("told(8), call 512", x.told(8), Due.BEYOND);
  }
}
