/** Promises 18 and 19 at their bounds: quarters that are just met, SLOPES held, HEIGHTS that CLEAR. */
public final class BeamSlurBoundsTest {
  private static final Due due = new Due();

  public static void main(String[] args) {
    tenths();
    sixteenths();
    roundedToAQuarter();
    upOrDown();
    twoOrMore();
    liftIsTheGreatestDrop();
    liftAroundNothing();
    dropsAreRounded();
    threeOrMore();
    clearsIsMoreThanTop();
    placesAreHeldTo6();
    sidesAlike();
    greatestHeights();
    due.end();
  }

  private static EngravedLines steps(int width, int... steps) {
    EngravedLines x = new EngravedLines();
    x.width(width);
    for (int i = 0; i < steps.length; i++) {
      x.add(0, 1);
      x.set(i, 2, steps[i]);
    }
    return x;
  }

  private static EngravedLines climbing(int width, int climb) {
    return climb < 0 ? steps(width, 20, 20 + climb) : steps(width, -12, climb - 12);
  }

  private static float held(int quarters) {
    return Math.max(-2, Math.min(2, quarters)) / 4f;
  }

  /** At 20 the second NOTE is AT 10: every SLOPE from -6 to 6 quarters, held to 2. */
  private static void tenths() {
    for (int climb = -32; climb <= 32; climb++) {
      EngravedLines x = climbing(20, climb);
      due.bits("RISE of " + climb, x.beam(0, 1, 0), climb / 2f / 10f);
      due.bits("SLOPE of " + climb, x.beam(0, 1, 1), held(Math.floorDiv(2 * climb + 5, 10)));
    }
  }

  /** At 64 it is AT 32: quarters that are just met go up, below 0, too. */
  private static void sixteenths() {
    for (int climb = -32; climb <= 32; climb++) {
      EngravedLines x = climbing(64, climb);
      due.bits("RISE of " + climb, x.beam(0, 1, 0), climb / 2f / 32f);
      due.bits("SLOPE of " + climb, x.beam(0, 1, 1), held(Math.floorDiv(climb + 8, 16)));
    }
    // At 32 it is AT 16: 12 by 16 is 3 quarters, 20 by 16 is 5.
    due.bits("held from 3 quarters", climbing(32, 24).beam(0, 1, 1), 0.5f);
    due.bits("held from -3 quarters", climbing(32, -24).beam(0, 1, 1), -0.5f);
    due.bits("two just met", climbing(32, 12).beam(0, 1, 1), 0.5f);
    due.bits("-2.5 go up", climbing(32, -20).beam(0, 1, 1), -0.5f);
  }

  /** "each sum, .. product .. of FLOATS .. is rounded": 0.5 short of it by less is a quarter, too. */
  private static void roundedToAQuarter() {
    String[] texts = {"n16 n48-12 n13+15", "n32+4 n34+4 n19-10 n28+16"};
    int[] widths = {85, 64};
    for (int i = 0; i < 2; i++) {
      EngravedLines x = Due.read(texts[i]);
      x.width(widths[i]);
      int b = x.count(0) - 1;
      float rise = Float.intBitsToFloat(x.beam(0, b, 0));
      due.holds("short of a quarter by little", rise * 4d + 0.5d < 1d && rise * 4f + 0.5f == 1f);
      due.bits("SLOPE of " + texts[i], x.beam(0, b, 1), 0.25f);
    }
  }

  /** "up (over all), if STEPS of all together are below 0, else down". */
  private static void upOrDown() {
    for (int step = -12; step <= 20; step++) {
      due.is("up of " + step + " and 0", steps(60, step, 0).beam(0, 1, 2), step < 0 ? 1 : 0);
      int second = Math.max(-12, Math.min(12, -step));
      due.is("up of " + step + " and " + second, steps(60, step, second).beam(0, 1, 2),
          step + second < 0 ? 1 : 0);
    }
    int[] many = new int[32];
    many[30] = -1;
    EngravedLines x = steps(380, many);
    due.is("up of -1 in 32", x.beam(0, 31, 2), 1);
    x.set(0, 2, 1);
    due.is("up of 0 in 32", x.beam(0, 31, 2), 0);
    x.set(31, 2, -1);
    due.is("up of -1 in 32", x.beam(0, 31, 2), 1);
    due.is("COLUMNS that aren't under it don't matter", x.beam(0, 29, 2), 0);
  }

  /** "(two or more)", "KIND: one is no NOTE": the first, the last or one between. */
  private static void twoOrMore() {
    for (int n = 1; n <= 32; n++) {
      EngravedLines x = steps(200, new int[n]);
      due.is("beam over " + n, x.beam(0, n - 1, 2), n == 1 ? Due.STATE : 0);
      due.is("beam over " + n + " and one that isn't there", x.beam(0, n, 2), Due.BEYOND);
      for (int other : new int[] {0, n / 2, n - 1}) {
        for (int kind = 1; kind <= 2; kind++) {
          x.set(other, 0, kind);
          due.is("one of " + n + " is no NOTE", x.beam(0, n - 1, 3), n == 1 ? Due.STATE : Due.KIND);
          x.set(other, 0, 0);
        }
      }
      due.is("all are NOTES again", x.beam(0, n - 1, 2), n == 1 ? Due.STATE : 0);
    }
    EngravedLines y = Due.read("r1 n1 n1 b");
    due.is("others beside it", y.beam(1, 2, 2), 0);
  }

  /** "that no NOTE has less than 5 between it and the BEAM, and one just that": whichever it is. */
  private static void liftIsTheGreatestDrop() {
    for (int k = 0; k < 4; k++) {
      // No SLOPE: all but one are 3 nearer to the BEAM's far side.
      int[] below = {-6, -6, -6, -6};
      below[k] = -3;
      if (k == 0 || k == 3) {
        below[0] = -3;
        below[3] = -3;
      }
      due.bits("up, greatest is " + k, steps(100, below).beam(0, 3, 3), 2);
      int[] above = {6, 6, 6, 6};
      above[k] = 3;
      if (k == 0 || k == 3) {
        above[0] = 3;
        above[3] = 3;
      }
      due.bits("down, greatest is " + k, steps(100, above).beam(0, 3, 3), 2);
    }
    // AT 20, of SLOPE 0.5: up, the first one's DROP is -12 + 20, the last one's 8.
    due.bits("SLOPE", steps(40, -12, 8).beam(0, 1, 1), 0.5f);
    due.bits("both alike", steps(40, -12, 8).beam(0, 1, 3), 13);
    due.bits("the last one, up", steps(40, -12, 9).beam(0, 1, 3), 14);
    due.bits("the first one, up", steps(40, -11, 8).beam(0, 1, 3), 14);
    due.bits("the first one, down", steps(40, -8, 12).beam(0, 1, 3), -7);
    due.bits("the first one, down", steps(40, -8, 13).beam(0, 1, 3), -7);
    due.bits("the last one, down", steps(40, -7, 12).beam(0, 1, 3), -7);
  }

  /** A LIFT of 0 and of those next to it; DROPS below 0. */
  private static void liftAroundNothing() {
    for (int step = 0; step <= 20; step++) {
      due.bits("down from " + step, steps(60, step, step).beam(0, 1, 3), 5 - step);
    }
    for (int step = -12; step < 0; step++) {
      due.bits("up from " + step, steps(60, step, step).beam(0, 1, 3), 5 + step);
    }
  }

  /** A DROP is rounded in each of its steps: the middle NOTE's, of SLOPE -0.25, down. */
  private static void dropsAreRounded() {
    EngravedLines x = Due.read("n2+18 n64+11 n38+7");
    x.width(45);
    float middle = Float.intBitsToFloat(x.at(0, 2, 1, 1));
    float last = Float.intBitsToFloat(x.at(0, 2, 2, 1));
    float drop = -11f - 0.25f * (middle - last) * 2f;
    due.holds("it is of matter that it is rounded",
        drop != (float) (-11d - 0.25d * ((double) middle - last) * 2d));
    due.bits("SLOPE", x.beam(0, 2, 1), -0.25f);
    due.bits("LIFT", x.beam(0, 2, 3), drop + 5f);
  }

  /** "A SLUR over a STRETCH of three or more COLUMNS". */
  private static void threeOrMore() {
    for (int n = 1; n <= 32; n++) {
      EngravedLines x = Due.read("n1" + " n1".repeat(n - 1));
      for (int what = 0; what < 4; what++) {
        due.is("slur over " + n, x.slur(0, n - 1, what), n < 3 ? Due.STATE : 0);
      }
      due.is("slur over one that isn't there", x.slur(0, n, 0), Due.BEYOND);
    }
    EngravedLines y = Due.read("b r1 b n1 r1");
    due.is("of all KINDS", y.slur(0, 4, 1), 0);
  }

  /** "it CLEARS, if c is more than TOP of each": not, if c is just TOP. */
  private static void clearsIsMoreThanTop() {
    EngravedLines x = Due.read("n1 n1 n1");
    for (int step = 0; step <= 20; step++) {
      x.set(1, 2, step);
      // Over TOP step + 1 the place is 1 + h + 2.
      due.is("above, STEP " + step, x.slur(0, 2, 2), Math.max(0, step + 1 - 3 + 1));
    }
    for (int step = -12; step < 0; step++) {
      x.set(1, 2, step);
      // Below BOTTOM step - 1 the place is 7 + h + 2.
      due.is("below, STEP " + step, x.slur(0, 2, 3), Math.max(0, 1 - step - 9 + 1));
    }
    for (int adorn = 0; adorn <= 9; adorn++) {
      x.set(1, 2, 0);
      x.set(1, 4, adorn);
      due.is("above, ADORN " + adorn, x.slur(0, 2, 2), Math.max(0, 1 + adorn - 3 + 1));
      due.is("below, ADORN " + adorn, x.slur(0, 2, 3), 0);
      x.set(2, 4, adorn);
      due.is("above, with the last one's ADORN", x.slur(0, 2, 2), 0);
      x.set(2, 4, 0);
      x.set(0, 4, adorn);
      due.is("above, with the first one's ADORN", x.slur(0, 2, 2), 0);
      x.set(0, 4, 0);
    }
  }

  /** "2 times the lesser of i and m + 1 - i, held to 6", of as many as there can be. */
  private static void placesAreHeldTo6() {
    for (int m = 1; m <= 30; m++) {
      EngravedLines x = Due.read("r1" + " r1".repeat(m + 1));
      for (int i = 1; i <= m; i++) {
        x.set(i, 4, 9);
        int place = Math.min(6, 2 * Math.min(i, m + 1 - i));
        due.is("over " + i + " of " + m, x.slur(0, m + 1, 2), 10 - place);
        x.set(i, 4, 0);
      }
      due.is("over " + m, x.slur(0, m + 1, 2), 0);
    }
  }

  /** "on the side on which the least HEIGHT that CLEARS is less (above, if they are alike)". */
  private static void sidesAlike() {
    // TOP 14 and ADORN over 9 + h + 2; 0 less BOTTOM -4 over -1 + h + 2.
    for (int adorn = 0; adorn <= 9; adorn++) {
      EngravedLines x = Due.read("n1+8 n1+13 b n1+8");
      x.set(1, 4, adorn);
      int above = 4 + adorn;
      int below = 4;
      due.is("above", x.slur(0, 3, 2), above);
      due.is("below", x.slur(0, 3, 3), below);
      due.is("side of " + above + " and " + below, x.slur(0, 3, 0), above <= below ? 0 : 1);
      due.is("HEIGHT", x.slur(0, 3, 1), below);
    }
    for (int step = 8; step <= 20; step++) {
      EngravedLines x = Due.read("n1+8 n1+8 b n1+8");
      x.set(1, 2, step);
      int above = Math.max(0, step + 1 - 11 + 1);
      due.is("side of " + above + " and 4", x.slur(0, 3, 0), above <= 4 ? 0 : 1);
      due.is("HEIGHT of " + above + " and 4", x.slur(0, 3, 1), Math.min(above, 4));
    }
  }

  /** "HEIGHT h (0 to 40)": the greatest that can be asked for. */
  private static void greatestHeights() {
    EngravedLines x = Due.read("n1-12 n1+20''''''''' n1-12");
    due.is("above: 30 over -5 and 2", x.slur(0, 2, 2), 34);
    due.is("below", x.slur(0, 2, 3), 0);
    due.is("side", x.slur(0, 2, 0), 1);
    due.is("HEIGHT", x.slur(0, 2, 1), 0);
    EngravedLines y = Due.read("n1+20 n1-12 n1+20");
    due.is("below: 13 over -13 and 2", y.slur(0, 2, 3), 25);
    due.is("above", y.slur(0, 2, 2), 0);
    due.is("side", y.slur(0, 2, 0), 0);
    EngravedLines z = Due.read("n1-12 n1+20''''''''' n1-12 n1-12");
    due.is("the first of two", z.slur(0, 3, 2), 34);
  }
}
