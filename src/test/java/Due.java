/** What is due of calls: tells each answer that is another one, and ends the test. */
final class Due {
  static final int LOW = -2147483000;
  static final int BEYOND = LOW - 1;
  static final int NONE = LOW - 2;
  static final int STATE = LOW - 3;
  static final int FULL = LOW - 4;
  static final int KIND = LOW - 5;
  static final int NOUGHT = LOW - 6;
  static final int LOST = LOW - 7;
  static final long LONG_BEYOND = -9000000000000000001L;
  static final long LONG_LOST = -9000000000000000007L;

  private int asked = 0;
  private int wrong = 0;

  void is(String call, long got, long want) {
    asked++;
    if (got != want) {
      wrong++;
      System.out.println(call + " answered " + got + ", due is " + want);
    }
  }

  /** BITS of a FLOAT are due. */
  void bits(String call, int got, float want) {
    asked++;
    if (got != Float.floatToIntBits(want)) {
      wrong++;
      System.out.println(call + " answered " + got + " (" + Float.intBitsToFloat(got)
          + "), due is " + Float.floatToIntBits(want) + " (" + want + ")");
    }
  }

  void holds(String what, boolean it) {
    asked++;
    if (!it) {
      wrong++;
      System.out.println(what + " does not hold");
    }
  }

  void end() {
    if (asked == 0) {
      System.out.println("nothing was asked");
      System.exit(1);
    }
    System.out.println(asked + " answers, " + wrong + " not as due");
    if (wrong != 0) {
      System.exit(1);
    }
  }

  /** A new object on whose TAPE a text lies. */
  static EngravedLines fed(String text) {
    EngravedLines x = new EngravedLines();
    feed(x, text);
    return x;
  }

  static void feed(EngravedLines x, String text) {
    for (int i = 0; i < text.length(); i++) {
      x.feed(text.charAt(i));
    }
  }

  /** A new object with the COLUMNS of a TEXT of MUSIC. */
  static EngravedLines read(String text) {
    EngravedLines x = fed(text);
    x.music();
    return x;
  }
}
