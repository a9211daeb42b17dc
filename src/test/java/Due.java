/** Counts answers that are not as due, and ends a test's main method with the exit code that tells it. */
final class Due {
  private static int wrong = 0;
  private static int asked = 0;

  private Due() {
  }

  static void is(String call, long got, long want) {
    asked++;
    if (got != want) {
      wrong++;
      if (wrong <= 40) {
        System.out.println(call + " answered " + got + ", due is " + want);
      }
    }
  }

  static void holds(String what, boolean holds) {
    asked++;
    if (!holds) {
      wrong++;
      System.out.println("does not hold: " + what);
    }
  }

  static int wrongSoFar() {
    return wrong;
  }

  /** Puts a text behind THE TEXT, byte by byte or in eights. */
  static void put(IceAtTheMiddle x, String text) {
    for (int i = 0; i < text.length(); i += 8) {
      int n = Math.min(8, text.length() - i);
      long v = 0;
      for (int j = 0; j < n; j++) {
        v = v << 8 | text.charAt(i + j) & 255;
      }
      x.write(n, v);
    }
  }

  static void text(IceAtTheMiddle x, String text) {
    x.wipe();
    put(x, text);
  }

  static IceAtTheMiddle withLaw(String law) {
    IceAtTheMiddle x = new IceAtTheMiddle();
    text(x, law);
    x.law();
    return x;
  }

  static void tell(IceAtTheMiddle x, int story, String entries) {
    text(x, entries);
    x.story(story);
  }

  /** What an object tells of its state without a change to it, in few enough calls that two pictures have room. */
  static String picture(IceAtTheMiddle x) {
    StringBuilder all = new StringBuilder();
    for (int what = 0; what < 4; what++) all.append(x.count(what)).append(' ');
    for (int what = 0; what < 12; what++) all.append(x.lawful(what)).append(' ');
    for (int bed = 0; bed < 8; bed++) for (int what = 0; what < 6; what++) all.append(x.about(bed, what)).append(' ');
    for (int story = 0; story < 4; story++) {
      for (int round = 0; round < 100; round += 3) all.append(x.at(story, round)).append(' ');
      all.append(x.odds(story, true)).append(' ').append(x.odds(story, false)).append(' ');
    }
    return all.append(x.fault(true)).append(' ').append(x.fault(false)).toString();
  }

  static void end(String test) {
    System.out.println(test + ": " + asked + " answers, " + wrong + " not as due");
    if (wrong != 0) {
      System.exit(1);
    }
  }
}
