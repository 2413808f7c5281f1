/** Promises 18 and 19: beams, slurs. */
public final class BeamsSlursTest {
  private static final Due due = new Due();

  public static void main(String[] args) {
    twoNotes();
    quarters();
    manyNotes();
    beamErrors();
    slurSides();
    slurBows();
    slurEnds();
    slurOverOthers();
    slurErrors();
    due.end();
  }

  private static EngravedLines steps(int width, int... steps) {
    EngravedLines x = new EngravedLines();
    x.width(width);
    for (int i = 0; i < steps.length; i++) {
      x.add(0, 1);
      x.set(i, 2, steps[i]);
    }
    return x;
  }

  private static void isBeam(EngravedLines x, int b, float rise, float slope, int up, float lift) {
    String over = "beam(0, " + b + ", ";
    due.bits(over + "0)", x.beam(0, b, 0), rise);
    due.bits(over + "1)", x.beam(0, b, 1), slope);
    due.is(over + "2)", x.beam(0, b, 2), up);
    due.bits(over + "3)", x.beam(0, b, 3), lift);
  }

  // Promise 18; at 60 the second of two NOTES is AT 30.
  private static void twoNotes() {
    isBeam(steps(60, 0, 20), 1, 10f / 30f, 0.25f, 0, -10);
    isBeam(steps(60, -12, -2), 1, 5f / 30f, 0.25f, 1, 8);
    isBeam(steps(60, -2, -12), 1, -5f / 30f, -0.25f, 1, -7);
    isBeam(steps(60, 0, 0), 1, 0, 0, 0, 5);
    isBeam(steps(60, 1, -1), 1, -1f / 30f, 0, 0, 6);
    isBeam(steps(60, 0, -1), 1, -0.5f / 30f, 0, 1, 5);
    isBeam(steps(60, 5, 6), 1, 0.5f / 30f, 0, 0, 0);
  }

  private static void quarters() {
    isSlope("a half goes up", steps(64, 0, 8), 0.25f);
    isSlope("less than a half", steps(64, 0, 7), 0);
    isSlope("a half below 0 goes up, too", steps(64, 8, 0), 0);
    isSlope("more than a half below 0", steps(64, 9, 0), -0.25f);
    isSlope("-0.3: -1, not 0", steps(60, 0, -12), -0.25f);
    isSlope("-2 quarters", steps(60, 20, -12), -0.5f);
    isSlope("2 quarters", steps(60, -12, 20), 0.5f);
    isSlope("held above", steps(20, -12, 20), 0.5f);
    isSlope("held below", steps(20, 20, -12), -0.5f);
    due.bits("RISE isn't held", steps(20, -12, 20).beam(0, 1, 0), 16f / (6f + 8f / 6f * 3f));
  }

  private static void isSlope(String what, EngravedLines x, float slope) {
    due.bits(what, x.beam(0, 1, 1), slope);
  }

  private static void manyNotes() {
    // AT 0, 20, 40: the middle one asks for most.
    isBeam(steps(60, 0, -9, -2), 2, -1f / 40f, 0, 1, 5);
    isBeam(steps(60, -3, 2, -2), 2, 0.5f / 40f, 0, 1, 7);
    isBeam(steps(60, 3, -2, 2), 2, -0.5f / 40f, 0, 0, 7);
    // SLOPE 0.25: the DROPS, down, are 0 - 20, -12 - 10 and -20.
    isBeam(steps(60, 0, 12, 20), 2, 10f / 40f, 0.25f, 0, -15);
    isBeam(steps(60, 0, 5, 20), 2, 10f / 40f, 0.25f, 0, -10);
    // Not all of the COLUMNS, and not from the first one on.
    EngravedLines x = steps(60, 7, 0, 20, -12);
    due.bits("beam(1, 2, 0)", x.beam(1, 2, 0), 10f / 30f);
    due.bits("beam(1, 2, 3)", x.beam(1, 2, 3), -10);
    due.is("STEPS of all together: 8", x.beam(2, 3, 2), 0);
    due.is("STEPS of all together: 15", x.beam(0, 3, 2), 0);
    x.set(2, 2, 4);
    due.is("STEPS of all together: -1", x.beam(0, 3, 2), 1);
    // Where AT is no whole number.
    EngravedLines y = steps(70, -12, 4, 3, -7);
    float third = 6f + (70f - 24f) / 12f * 3f;
    float last = third + third + third;
    float second = third + third;
    isBeam(y, 3, 2.5f / last, 0, 1, 9);
    y.set(3, 2, 20);
    float tilt = 0f - 0.25f;
    float d0 = 12f - tilt * (0f - last) * 2f;
    float d1 = -4f - tilt * (third - last) * 2f;
    float d2 = -3f - tilt * (second - last) * 2f;
    float most = Math.max(Math.max(d0, d1), Math.max(d2, -20f));
    isBeam(y, 3, 16f / last, 0.25f, 0, most + 5f);
  }

  private static void beamErrors() {
    EngravedLines x = Due.read("n1 b n1 r1 n1 n1");
    due.is("one NOTE", x.beam(0, 0, 0), Due.STATE);
    due.is("one BAR", x.beam(1, 1, 0), Due.STATE);
    due.is("NOTE and BAR", x.beam(0, 1, 0), Due.KIND);
    due.is("BAR and NOTE", x.beam(1, 2, 0), Due.KIND);
    due.is("a REST between", x.beam(2, 4, 0), Due.KIND);
    due.bits("two NOTES", x.beam(4, 5, 0), 0);
    due.is("what -1", x.beam(0, 0, -1), Due.BEYOND);
    due.is("what 4", x.beam(0, 1, 4), Due.BEYOND);
    due.is("what MIN", x.beam(4, 5, Integer.MIN_VALUE), Due.BEYOND);
    due.is("no such STRETCH", x.beam(5, 6, 0), Due.BEYOND);
    due.is("told(1)", x.told(1), 4);
    due.is("told(3)", x.told(3), 2);
    due.is("told(5)", x.told(5), 3);
  }

  private static void isSlur(String text, int side, int height, int above, int below) {
    EngravedLines x = Due.read(text);
    int b = x.count(0) - 1;
    due.is("side of " + text, x.slur(0, b, 0), side);
    due.is("HEIGHT of " + text, x.slur(0, b, 1), height);
    due.is("above " + text, x.slur(0, b, 2), above);
    due.is("below " + text, x.slur(0, b, 3), below);
  }

  // Promise 19
  private static void slurSides() {
    isSlur("n1 n1 n1", 0, 0, 0, 0);
    isSlur("n1 n1' n1", 0, 0, 0, 0);
    isSlur("n1 n1'' n1", 1, 0, 1, 0);
    isSlur("n1 n1''''''''' n1", 1, 0, 8, 0);
    // BOTTOM -13 over ends of -7: 13 + 1 - 7 - 2.
    isSlur("n1 n1-12 n1", 0, 0, 0, 5);
    isSlur("n1 n1+20 n1", 1, 0, 19, 0);
    // Both sides have one in the way: TOP 14, BOTTOM -4 between ends of 9, 1.
    isSlur("n1+8 n1+13 b n1+8", 0, 4, 4, 4);
    isSlur("n1+8 n1+14 b n1+8", 1, 4, 5, 4);
    isSlur("n1+8 n1+12 b n1+8", 0, 3, 3, 4);
  }

  private static void slurBows() {
    String[] words = new String[9];
    int[] bows = {0, 2, 4, 6, 6, 6, 4, 2};
    for (int i = 1; i <= 7; i++) {
      java.util.Arrays.fill(words, "n1");
      words[i] = "n1'''''''''";
      isSlur(String.join(" ", words), 1, 0, 10 - bows[i], 0);
    }
    words = new String[7];
    int[] shorter = {0, 2, 4, 6, 4, 2};
    for (int i = 1; i <= 5; i++) {
      java.util.Arrays.fill(words, "r1");
      words[i] = "n1-12";
      isSlur(String.join(" ", words), 0, 0, 0, 13 + 1 - 3 - shorter[i]);
    }
  }

  private static void slurEnds() {
    isSlur("n1 n1''''''''' n1'''''", 1, 0, 3, 0);
    isSlur("n1''' n1''''''''' n1", 1, 0, 5, 0);
    isSlur("n1-3 n1-12 n1-9", 0, 0, 0, 2);
    isSlur("n1+20 n1+20 n1-12", 0, 0, 0, 0);
  }

  private static void slurOverOthers() {
    EngravedLines x = Due.read("n1+20 r1 b n1 n1+5 r1 n1+20");
    due.is("of a part", x.slur(1, 5, 2), 6 + 1 - 3 - 2);
    due.is("of another part, above", x.slur(3, 5, 2), 6 + 1 - 3 - 2);
    due.is("of another part, below", x.slur(1, 3, 3), 0);
    due.is("of all", x.slur(0, 6, 3), 3 + 1 + 13 - 2);
    x.set(3, 2, -12);
    due.is("after set", x.slur(1, 5, 3), 13 + 1 - 3 - 4);
  }

  private static void slurErrors() {
    EngravedLines x = Due.read("n1 b r1 n1");
    due.is("one", x.slur(0, 0, 0), Due.STATE);
    due.is("two", x.slur(1, 2, 3), Due.STATE);
    due.is("three", x.slur(0, 2, 0), 0);
    due.is("what -1", x.slur(0, 0, -1), Due.BEYOND);
    due.is("what 4", x.slur(0, 3, 4), Due.BEYOND);
    due.is("told(3)", x.told(3), 2);
    due.is("told(1)", x.told(1), 2);
  }
}
