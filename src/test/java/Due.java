/** What the tests share: answers that are due, and bodies put by their texts. */
final class Due {
  private static int wrong = 0;
  private static int asked = 0;

  static final int INVALID = -1000001;
  static final int IMPOSSIBLE = -1000002;
  static final int LIMIT = -1000003;
  static final int MISSING = -1000004;

  private Due() {
  }

  static void is(String call, long got, long want) {
    asked++;
    if (got != want) {
      wrong++;
      System.out.println(call + " answered " + got + ", due is " + want);
    }
  }

  static void isTrue(String what, boolean holds) {
    is(what, holds ? 1 : 0, 1);
  }

  static JammedBodies typed(JammedBodies x, String text) {
    x.clearText();
    for (int k = 0; k < text.length(); k++) {
      x.type(text.charAt(k));
    }
    return x;
  }

  static int put(JammedBodies x, String text) {
    return typed(x, text).put();
  }

  /** A new object with a box and bodies, all of which must go in. */
  static JammedBodies with(int width, int height, String... bodies) {
    JammedBodies x = new JammedBodies();
    is("box(" + width + ", " + height + ")", x.box(width, height), 2020);
    for (int k = 0; k < bodies.length; k++) {
      is("put() of " + bodies[k], put(x, bodies[k]), k);
    }
    return x;
  }

  static String rectangle(int left, int low, int right, int high) {
    return left + "," + low + ";" + right + "," + low + ";" + right + "," + high + ";" + left + "," + high;
  }

  /** The corners of a body, told as a text would tell them. */
  static String corners(JammedBodies x, int body) {
    StringBuilder told = new StringBuilder();
    for (int k = 0; k < x.bodyOf(body, 0); k++) {
      told.append(k > 0 ? ";" : "").append(x.bodyOf(body, 10 + 2 * k)).append(',').append(x.bodyOf(body, 11 + 2 * k));
    }
    return told.toString();
  }

  static void same(String what, String got, String want) {
    asked++;
    if (!got.equals(want)) {
      wrong++;
      System.out.println(what + " is " + got + ", due is " + want);
    }
  }

  static void end() {
    System.out.println(wrong == 0 ? "all " + asked + " answers are as due" : wrong + " of " + asked + " answers are not as due");
    if (wrong != 0) {
      System.exit(1);
    }
  }
}
