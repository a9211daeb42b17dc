/** Counts answers that are not as due, and ends a test's main method with the exit code that tells it. */
final class Due {
  private static int wrong = 0;
  private static int asked = 0;

  private Due() {
  }

  static void is(String call, long got, long want) {
    asked++;
    if (got != want) {
      wrong++;
      if (wrong <= 40) {
        System.out.println(call + " answered " + got + ", due is " + want);
      }
    }
  }

  static void holds(String what, boolean holds) {
    asked++;
    if (!holds) {
      wrong++;
      System.out.println("does not hold: " + what);
    }
  }

  static int wrongSoFar() {
    return wrong;
  }

  /** Puts a text behind THE TEXT, byte by byte or in eights. */
  static void put(IceAtTheMiddle x, String text) {
    for (int i = 0; i < text.length(); i += 8) {
      int n = Math.min(8, text.length() - i);
      long v = 0;
      for (int j = 0; j < n; j++) {
        v = v << 8 | text.charAt(i + j) & 255;
      }
      x.write(n, v);
    }
  }

  static void text(IceAtTheMiddle x, String text) {
    x.wipe();
    put(x, text);
  }

  static IceAtTheMiddle withLaw(String law) {
    IceAtTheMiddle x = new IceAtTheMiddle();
    text(x, law);
    x.law();
    return x;
  }

  static void tell(IceAtTheMiddle x, int story, String entries) {
    text(x, entries);
    x.story(story);
  }

  static void end(String test) {
    System.out.println(test + ": " + asked + " answers, " + wrong + " not as due");
    if (wrong != 0) {
      System.exit(1);
    }
  }
}
