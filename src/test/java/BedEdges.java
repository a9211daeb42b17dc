/** Edges of promises 22 to 31: BEDS, chances, ODDS. */
final class BedEdges {
  private static final int UNKNOWN = Edge.UNKNOWN, OUTSIDE = Edge.OUTSIDE, STATE = Edge.STATE, FULL = Edge.FULL, NONE = Edge.NONE;

  private BedEdges() {
  }

  static void all() {
    eightBeds();
    lands();
    signs();
    dates();
    needles();
    bed();
    bedRefused();
    forget();
    icy();
    slides();
    about();
    explaining();
    maying();
    explains();
    chanceOfIcy();
    chanceOfOthers();
    chance();
    weights();
    weight();
    oddsTogether();
    odds();
    greatest();
    best();
    moverMost();
    moverCut();
    moverLeast();
    mover();
    nextByTens();
    nextNearest();
    nextLeast();
    next();
  }

  /** One BED of these SIGNS from OLD to YOUNG with its NEEDLE at BAND 2; STORY 0 has ICE at BAND 2 from 10 to 19, at 5 from 30 to 39. */
  private static IceAtTheMiddle told(int signs, int old, int young, int first) {
    IceAtTheMiddle x = new IceAtTheMiddle();
    Due.tell(x, 0, "10:2;20:;30:5;40:");
    x.bed(0, signs, old, young, 2, first);
    return x;
  }

  private static void fraction(String call, IceAtTheMiddle x, long above, long below) {
    Edge.due(call + " above", x.chance(0, 0, true), above);
    Edge.due(call + " below", x.chance(0, 0, false), below);
  }

  // ---- 22 to 24

  private static void eightBeds() {
    Edge.says(22, "BEDS 0, 1, .. (8 at most)");
    IceAtTheMiddle x = new IceAtTheMiddle();
    for (int i = 0; i < 8; i++) Edge.due("BED " + i, x.bed(0, 0, 0, 0, 0, 0), i);
    Edge.due("a ninth", x.bed(0, 0, 0, 0, 0, 0), FULL);
    Edge.due("eight", x.count(1), 8);
  }

  private static void lands() {
    Edge.says(22, "a LAND (0 to 3)");
    IceAtTheMiddle x = new IceAtTheMiddle();
    Edge.due("-1", x.bed(-1, 0, 0, 0, 0, 0), UNKNOWN);
    for (int land = 0; land < 4; land++) {
      Edge.due("its number", x.bed(land, 0, 0, 0, 0, 0), land);
      Edge.due("its LAND", x.about(land, 0), land);
    }
    Edge.due("4", x.bed(4, 0, 0, 0, 0, 0), UNKNOWN);
  }

  private static void signs() {
    Edge.says(22, "SIGNS (bits: 1 a stone dropped into mud, 2 a scratched one, 4 a shelf of lime on top, 8 it looks like a slide)");
    IceAtTheMiddle x = new IceAtTheMiddle();
    for (int signs = 0; signs < 16; signs++) {
      Edge.due("SIGNS " + signs, x.bed(0, signs, 0, 0, 0, 0), 0);
      Edge.due("told", x.about(0, 1), signs);
      x.forget();
    }
    Edge.due("16", x.bed(0, 16, 0, 0, 0, 0), OUTSIDE);
    Edge.due("-1", x.bed(0, -1, 0, 0, 0, 0), OUTSIDE);
  }

  private static void dates() {
    Edge.says(22, "a DATE from OLD to YOUNG (ROUNDS, 0 to 99, YOUNG no less)");
    int[][] good = {{0, 0}, {0, 99}, {99, 99}, {50, 50}, {50, 51}};
    for (int[] date : good) {
      IceAtTheMiddle x = new IceAtTheMiddle();
      Edge.due(date[0] + " to " + date[1], x.bed(0, 0, date[0], date[1], 0, 0), 0);
      Edge.due("OLD", x.about(0, 2), date[0]);
      Edge.due("YOUNG", x.about(0, 3), date[1]);
    }
    int[][] wrong = {{-1, 0}, {-1, -1}, {0, 100}, {100, 100}, {99, 100}, {50, 49}, {99, 0}, {1, 0}};
    for (int[] date : wrong) Edge.due(date[0] + " to " + date[1], new IceAtTheMiddle().bed(0, 0, date[0], date[1], 0, 0), OUTSIDE);
  }

  private static void needles() {
    Edge.says(22, "a NEEDLE (a BAND), which is FIRST by f tenths (0 to 10; else it was turned).");
    IceAtTheMiddle x = new IceAtTheMiddle();
    for (int needle = 0; needle < 6; needle++) {
      x.bed(0, 0, 0, 0, needle, 10);
      Edge.due("NEEDLE", x.about(needle, 4), needle);
      Edge.due("FIRST", x.about(needle, 5), 10);
    }
    Edge.due("NEEDLE -1", x.bed(0, 0, 0, 0, -1, 0), UNKNOWN);
    Edge.due("NEEDLE 6", x.bed(0, 0, 0, 0, 6, 0), UNKNOWN);
    Edge.due("FIRST -1", x.bed(0, 0, 0, 0, 0, -1), OUTSIDE);
    Edge.due("FIRST 11", x.bed(0, 0, 0, 0, 0, 11), OUTSIDE);
    Edge.due("FIRST 0", x.bed(0, 0, 0, 0, 0, 0), 6);
    // Not EXPLAINED, but it MAY: what is not FIRST was turned, and counts as 1.
    for (int first = 0; first <= 10; first++) {
      Edge.due("tenths of both", told(7, 30, 39, first).chance(0, 0, true) == 0 ? 1 : 0, first == 10 ? 1 : 0);
    }
  }

  private static void bed() {
    Edge.promises(22, "A BED: its number.");
    IceAtTheMiddle x = new IceAtTheMiddle();
    Edge.due("the first", x.bed(3, 15, 99, 99, 5, 10), 0);
    Edge.due("the second", x.bed(0, 0, 0, 0, 0, 0), 1);
    x.forget();
    Edge.due("the number of one that was forgotten", x.bed(2, 3, 4, 5, 1, 7), 1);
    int[] want = {2, 3, 4, 5, 1, 7};
    for (int what = 0; what < 6; what++) Edge.due("as told " + what, x.about(1, what), want[what]);
    Edge.due("the first is as it was", x.about(0, 2), 99);
  }

  private static void bedRefused() {
    IceAtTheMiddle x = new IceAtTheMiddle();
    Edge.promises(22, "UNKNOWN: land, needle");
    Edge.due("LAND 4", x.bed(4, 0, 0, 0, 0, 0), UNKNOWN);
    Edge.due("NEEDLE 6", x.bed(0, 0, 0, 0, 6, 0), UNKNOWN);
    for (int far : Edge.FAR) {
      Edge.due("LAND " + far, x.bed(far, 0, 0, 0, 0, 0), UNKNOWN);
      Edge.due("NEEDLE " + far, x.bed(0, 0, 0, 0, far, 0), UNKNOWN);
    }

    Edge.promises(22, "OUTSIDE: signs (0 to 15), old, young, first");
    Edge.due("SIGNS 16", x.bed(0, 16, 0, 0, 0, 0), OUTSIDE);
    Edge.due("OLD and YOUNG 100", x.bed(0, 0, 100, 100, 0, 0), OUTSIDE);
    Edge.due("YOUNG 100", x.bed(0, 0, 0, 100, 0, 0), OUTSIDE);
    Edge.due("FIRST 11", x.bed(0, 0, 0, 0, 0, 11), OUTSIDE);
    for (int far : Edge.FAR) {
      Edge.due("SIGNS " + far, x.bed(0, far, 0, 0, 0, 0), OUTSIDE);
      Edge.due("OLD " + far, x.bed(0, 0, far, 99, 0, 0), OUTSIDE);
      Edge.due("YOUNG " + far, x.bed(0, 0, 0, far, 0, 0), OUTSIDE);
      Edge.due("FIRST " + far, x.bed(0, 0, 0, 0, 0, far), OUTSIDE);
    }
    Edge.due("no BED came of all these", x.count(1), 0);

    Edge.promises(22, "FULL: 8.");
    for (int i = 0; i < 7; i++) x.bed(1, 1, 1, 1, 1, 1);
    Edge.due("the eighth", x.bed(1, 1, 1, 1, 1, 1), 7);
    Edge.due("a ninth", x.bed(2, 2, 2, 2, 2, 2), FULL);
    Edge.due("the eighth is as it was", x.about(7, 0), 1);
    Edge.due("no BED 8", x.about(8, 0), UNKNOWN);
    x.forget();
    Edge.due("room for one", x.bed(2, 2, 2, 2, 2, 2), 7);
    Edge.due("no more", x.bed(2, 2, 2, 2, 2, 2), FULL);
  }

  private static void forget() {
    Edge.promises(23, "The last BED is forgotten: how many are left.");
    IceAtTheMiddle x = new IceAtTheMiddle();
    for (int i = 0; i < 8; i++) x.bed(0, 0, i, i, 0, 0);
    for (int left = 7; left >= 0; left--) {
      Edge.due("left", x.forget(), left);
      Edge.due("it is gone", x.about(left, 2), UNKNOWN);
      if (left > 0) Edge.due("the one ahead is there", x.about(left - 1, 2), left - 1);
    }

    gone();

    Edge.promises(23, "STATE: there is none.");
    Edge.due("none any more", x.forget(), STATE);
    Edge.due("still none", x.forget(), STATE);
    Edge.due("none at first", new IceAtTheMiddle().forget(), STATE);
    Edge.due("none are none", x.count(1), 0);
    Edge.due("the next is the first", x.bed(0, 0, 0, 0, 0, 0), 0);
  }

  /** What is forgotten counts for no call, whatever it was. */
  private static void gone() {
    IceAtTheMiddle x = new IceAtTheMiddle();
    Due.tell(x, 0, "00:0");
    x.bed(0, 1, 50, 60, 0, 10);
    x.bed(0, 1, 10, 20, 0, 10);
    x.forget();
    Edge.due("ICY ones", x.count(2), 1);
    Edge.due("once", x.once(), 50);
    Edge.due("times", x.times(), 1);
    Edge.due("order", x.order(0), 1);
    Edge.due("pole", x.pole(0, 0), 1);
    Edge.due("odds", x.odds(0, false), 8);
    Edge.due("mover", x.mover(), 0);
    x.bed(0, 0, 55, 70, 0, 10);
    x.bed(0, 0, 52, 56, 0, 10);
    x.forget();
    Edge.due("gap", x.gap(1), 20);
    Edge.due("explains", x.explains(0, 2), UNKNOWN);
    Edge.due("chance", x.chance(0, 2, true), UNKNOWN);
    Edge.due("keep", x.keep(0), 2);
    x.forget();
    x.forget();
    Edge.due("mover of none", x.mover(), NONE);
    Edge.due("once of none", x.once(), NONE);
    Edge.due("times of none", x.times(), 0);
    for (int i = 0; i < 3; i++) x.bed(0, 1, i, i, 0, 0);
    for (int i = 0; i < 3; i++) x.forget();
    Edge.due("ICY ones of none", x.count(2), 0);
    Edge.due("elsewhere of none", x.elsewhere(0), 0);
  }

  private static void icy() {
    Edge.says(24, "A BED is ICY, if it has SIGN 1 or 2.");
    int[] icy = {0, 1, 1, 1, 0, 1, 1, 1, 0, 1, 1, 1, 0, 1, 1, 1};
    for (int signs = 0; signs < 16; signs++) Edge.due("SIGNS " + signs, told(signs, 0, 0, 0).about(0, 7), icy[signs]);
  }

  private static void slides() {
    Edge.says(24, "By how many tenths it may be of a SLIDE: 2, and 4 more with SIGN 8, 1 less with SIGN 2, 1 less with SIGN 4.");
    int[] tenths = {2, 2, 1, 1, 1, 1, 0, 0, 6, 6, 5, 5, 5, 5, 4, 4};
    for (int signs = 0; signs < 16; signs++) Edge.due("SIGNS " + signs, told(signs, 0, 0, 0).about(0, 6), tenths[signs]);
  }

  private static void about() {
    Edge.promises(24, "Of a BED its LAND (what = 0), SIGNS (1), OLD (2), YOUNG (3), NEEDLE (4), FIRST (5), tenths of a SLIDE (6),"
        + " whether it is ICY (7).");
    IceAtTheMiddle x = new IceAtTheMiddle();
    x.bed(3, 15, 98, 99, 5, 10);
    x.bed(0, 0, 0, 0, 0, 0);
    int[] greatest = {3, 15, 98, 99, 5, 10, 4, 1};
    int[] least = {0, 0, 0, 0, 0, 0, 2, 0};
    for (int what = 0; what < 8; what++) {
      Edge.due("the greatest: " + what, x.about(0, what), greatest[what]);
      Edge.due("the least: " + what, x.about(1, what), least[what]);
    }

    Edge.promises(24, "UNKNOWN; OUTSIDE.");
    Edge.due("BED 2 of two", x.about(2, 0), UNKNOWN);
    Edge.due("what 8", x.about(0, 8), OUTSIDE);
    Edge.due("no BEDS at all", new IceAtTheMiddle().about(0, 0), UNKNOWN);
    for (int far : Edge.FAR) {
      Edge.due("BED " + far, x.about(far, 0), UNKNOWN);
      Edge.due("what " + far, x.about(0, far), OUTSIDE);
    }
  }

  // ---- 25 to 27

  private static void explaining() {
    Edge.says(25, "A STORY EXPLAINS an ICY BED, if it has ICE at the BAND of its NEEDLE in some ROUND of its DATE");
    int[][] want = {{9, 9, 0}, {0, 9, 0}, {0, 10, 2}, {9, 10, 2}, {10, 10, 2}, {19, 19, 2}, {19, 99, 2}, {20, 29, 0}, {0, 99, 2}};
    for (int[] w : want) Edge.due(w[0] + " to " + w[1], told(1, w[0], w[1], 0).explains(0, 0), w[2]);
    IceAtTheMiddle x = new IceAtTheMiddle();
    Due.tell(x, 0, "00:0;01:");
    Due.tell(x, 1, "99:5");
    x.bed(0, 2, 0, 0, 0, 0);
    x.bed(0, 2, 99, 99, 5, 0);
    Edge.due("ROUND 0 at BAND 0", x.explains(0, 0), 2);
    Edge.due("ROUND 99 at BAND 5", x.explains(1, 1), 2);
    Edge.due("not in ROUND 0", x.explains(1, 0), 0);
    Edge.due("not in ROUND 99", x.explains(0, 1), 0);
  }

  private static void maying() {
    Edge.says(25, "it MAY, if it has ICE at any BAND in one.");
    int[][] want = {{20, 29, 0}, {20, 30, 1}, {30, 30, 1}, {39, 39, 1}, {39, 99, 1}, {40, 99, 0}, {19, 30, 2}};
    for (int[] w : want) Edge.due(w[0] + " to " + w[1], told(1, w[0], w[1], 0).explains(0, 0), w[2]);
    for (int band = 0; band < 6; band++) {
      IceAtTheMiddle x = new IceAtTheMiddle();
      Due.tell(x, 0, "50:" + band + ";51:");
      x.bed(0, 1, 0, 99, 3, 0);
      Edge.due("ICE at " + band, x.explains(0, 0), band == 3 ? 2 : 1);
    }
  }

  private static void explains() {
    Edge.promises(25, "Whether a STORY EXPLAINS a BED (2), MAY only (1), or not (0).");
    Edge.due("it EXPLAINS", told(1, 10, 10, 0).explains(0, 0), 2);
    Edge.due("it MAY only", told(1, 30, 30, 0).explains(0, 0), 1);
    Edge.due("not", told(1, 0, 0, 0).explains(0, 0), 0);
    Edge.due("another STORY", told(1, 10, 10, 0).explains(3, 0), 0);

    Edge.promises(25, "UNKNOWN; STATE: the BED is not ICY.");
    IceAtTheMiddle x = told(1, 10, 10, 0);
    Edge.due("STORY 4", x.explains(4, 0), UNKNOWN);
    Edge.due("BED 1 of one", x.explains(0, 1), UNKNOWN);
    for (int far : Edge.FAR) {
      Edge.due("STORY " + far, x.explains(far, 0), UNKNOWN);
      Edge.due("BED " + far, x.explains(0, far), UNKNOWN);
    }
    for (int signs : new int[] {0, 4, 8, 12}) Edge.due("SIGNS " + signs, told(signs, 10, 10, 0).explains(0, 0), STATE);
  }

  private static void chanceOfIcy() {
    Edge.says(26, "By a STORY an ICY BED has a chance: by FIRST tenths 1, if the STORY EXPLAINS it, else by its SLIDE; by the others 1,"
        + " if it MAY, else by its SLIDE.");
    for (int first = 0; first <= 10; first++) {
      fraction("it EXPLAINS, FIRST " + first, told(1, 19, 30, first), 1, 1);
      fraction("not at all, FIRST " + first, told(1, 20, 29, first), 1, 5);
      fraction("not at all and no SLIDE, FIRST " + first, told(6, 20, 29, first), 0, 1);
    }
    fraction("it MAY, FIRST 0", told(1, 30, 30, 0), 1, 1);
    fraction("it MAY, FIRST 1", told(1, 30, 30, 1), 23, 25);
    fraction("it MAY, FIRST 10", told(1, 30, 30, 10), 1, 5);
    fraction("it MAY, FIRST 10, no SLIDE", told(7, 30, 30, 10), 0, 1);
    fraction("it MAY, FIRST 9, no SLIDE", told(7, 30, 30, 9), 1, 10);
    fraction("it MAY, FIRST 5, the most of a SLIDE", told(9, 30, 30, 5), 4, 5);
  }

  private static void chanceOfOthers() {
    Edge.says(26, "A BED that is not ICY: by FIRST tenths a half, if there is ICE at that BAND in all ROUNDS of its DATE, else 1;"
        + " by the others 1.");
    fraction("in all, FIRST 10", told(0, 10, 19, 10), 1, 2);
    fraction("in all, FIRST 1", told(0, 10, 19, 1), 19, 20);
    fraction("in all, FIRST 0", told(0, 10, 19, 0), 1, 1);
    fraction("not in the first", told(0, 9, 19, 10), 1, 1);
    fraction("not in the last", told(0, 10, 20, 10), 1, 1);
    fraction("in the only one", told(12, 10, 10, 10), 1, 2);
    fraction("not in the only one", told(12, 9, 9, 10), 1, 1);
    fraction("at another BAND", told(8, 30, 39, 10), 1, 1);
    fraction("SIGN 4 is no ICE", told(4, 19, 19, 7), 13, 20);
  }

  private static void chance() {
    Edge.says(26, "FRACTIONS are told above (upper = true), below (1 and more), in least terms");
    fraction("nothing is 0 by 1", told(6, 0, 0, 5), 0, 1);
    fraction("all is 1 by 1", told(0, 0, 0, 5), 1, 1);
    fraction("in hundredths", told(2, 30, 30, 3), 73, 100);
    fraction("in less", told(2, 30, 30, 2), 41, 50);

    Edge.promises(26, "The chance of a BED by a STORY.");
    IceAtTheMiddle x = told(1, 10, 10, 10);
    Edge.due("by that one", x.chance(0, 0, false), 1);
    Edge.due("by another one", x.chance(3, 0, false), 5);
    x.weight(3, 0);
    Edge.due("whatever its WEIGHT is", x.chance(3, 0, false), 5);

    Edge.promises(26, "UNKNOWN.");
    IceAtTheMiddle y = told(1, 10, 10, 10);
    for (boolean upper : new boolean[] {true, false}) {
      Edge.due("STORY 4", y.chance(4, 0, upper), UNKNOWN);
      Edge.due("BED 1 of one", y.chance(0, 1, upper), UNKNOWN);
      for (int far : Edge.FAR) {
        Edge.due("STORY " + far, y.chance(far, 0, upper), UNKNOWN);
        Edge.due("BED " + far, y.chance(0, far, upper), UNKNOWN);
      }
    }
  }

  private static void weights() {
    Edge.says(27, "each with a WEIGHT (0 to 9; 1 at first).");
    IceAtTheMiddle x = new IceAtTheMiddle();
    for (int story = 0; story < 4; story++) {
      Edge.due("1 at first", x.weight(story, 0), 1);
      Edge.due("0", x.weight(story, 9), 0);
      Edge.due("9", x.weight(story, story), 9);
    }
    for (int story = 0; story < 4; story++) Edge.due("each its own", x.weight(story, 1), story);
    Edge.due("-1", x.weight(0, -1), OUTSIDE);
    Edge.due("10", x.weight(0, 10), OUTSIDE);
  }

  private static void weight() {
    Edge.promises(27, "WEIGHT of a STORY: what it was.");
    IceAtTheMiddle x = new IceAtTheMiddle();
    int was = 1;
    for (int v = 0; v <= 9; v++) {
      Edge.due("what it was", x.weight(2, v), was);
      was = v;
    }
    Edge.due("the same again", x.weight(2, 9), 9);
    Edge.due("others are 1", x.count(3), 12);

    Edge.promises(27, "UNKNOWN; OUTSIDE.");
    Edge.due("STORY 4", x.weight(4, 0), UNKNOWN);
    Edge.due("10", x.weight(2, 10), OUTSIDE);
    for (int far : Edge.FAR) {
      Edge.due("STORY " + far, x.weight(far, 0), UNKNOWN);
      Edge.due("WEIGHT " + far, x.weight(2, far), OUTSIDE);
    }
    Edge.due("as it was", x.weight(2, 9), 9);
  }

  // ---- 28, 29

  private static void odds(String call, IceAtTheMiddle x, int story, long above, long below) {
    Edge.due(call + " above", x.odds(story, true), above);
    Edge.due(call + " below", x.odds(story, false), below);
  }

  private static void setWeights(IceAtTheMiddle x, int... weights) {
    for (int story = 0; story < 4; story++) x.weight(story, weights[story]);
  }

  /** STORY s has ICE at BAND s all the time. */
  private static IceAtTheMiddle withBands(int... weights) {
    IceAtTheMiddle x = new IceAtTheMiddle();
    for (int story = 0; story < 4; story++) Due.tell(x, story, "00:" + story);
    setWeights(x, weights);
    return x;
  }

  private static void oddsTogether() {
    Edge.says(28, "THE ODDS of a STORY: its WEIGHT times chances of all BEDS, by those of all STORIES together.");
    IceAtTheMiddle x = withBands(1, 1, 1, 1);
    for (int story = 0; story < 4; story++) odds("no BEDS", x, story, 1, 4);
    setWeights(x, 9, 9, 9, 8);
    for (int i = 0; i < 8; i++) x.bed(0, 2, 0, 99, 0, 1);
    odds("eight BEDS", x, 0, 45000000000000000L, 106132828589969773L);
    IceAtTheMiddle y = withBands(9, 9, 9, 9);
    for (int i = 0; i < 8; i++) y.bed(0, 0, 0, 99, 5, 10);
    odds("the most of all", y, 3, 1, 4);
    IceAtTheMiddle z = withBands(0, 0, 0, 9);
    odds("one has all", z, 3, 1, 1);
    odds("one has nothing", z, 0, 0, 1);
    IceAtTheMiddle slides = new IceAtTheMiddle();
    for (int i = 0; i < 8; i++) slides.bed(0, 2, 0, 99, 0, 10);
    odds("the least that is something", slides, 0, 1, 4);
  }

  private static void odds() {
    Edge.promises(28, "THE ODDS.");
    IceAtTheMiddle x = withBands(2, 4, 6, 8);
    odds("by WEIGHTS", x, 0, 1, 10);
    odds("by WEIGHTS", x, 3, 2, 5);

    Edge.promises(28, "UNKNOWN; STATE: of no STORY is anything left.");
    for (int story : new int[] {4, -1, Integer.MIN_VALUE, Integer.MAX_VALUE}) odds("STORY " + story, x, story, UNKNOWN, UNKNOWN);
    setWeights(x, 0, 0, 0, 0);
    for (int story = 0; story < 4; story++) odds("no WEIGHT", x, story, STATE, STATE);
    IceAtTheMiddle y = withBands(9, 9, 9, 9);
    y.bed(0, 6, 0, 99, 4, 10);
    for (int story = 0; story < 4; story++) odds("no chance", y, story, STATE, STATE);
    IceAtTheMiddle z = withBands(9, 0, 9, 9);
    z.bed(0, 6, 0, 99, 1, 10);
    odds("no WEIGHT where there is a chance", z, 1, STATE, STATE);
    z.weight(1, 1);
    odds("a WEIGHT of 1 is enough", z, 1, 1, 1);
  }

  private static void greatest() {
    Edge.says(29, "(with the greatest ODDS, of like ones the least)");
    int[][] weights = {{1, 1, 1, 1}, {9, 9, 9, 9}, {0, 1, 1, 1}, {0, 0, 1, 1}, {0, 0, 0, 1}, {1, 2, 2, 2}, {1, 1, 2, 2}, {1, 1, 1, 2},
        {2, 1, 1, 2}, {8, 9, 8, 9}, {9, 8, 9, 9}};
    int[] want = {0, 0, 1, 2, 3, 1, 2, 3, 0, 1, 0};
    for (int i = 0; i < want.length; i++) Edge.due("case " + i, withBands(weights[i]).best(), want[i]);
    IceAtTheMiddle x = withBands(1, 9, 1, 1);
    x.bed(0, 2, 0, 99, 0, 10);
    Edge.due("10 tenths against 9", x.best(), 0);
    x.forget();
    x.bed(0, 1, 0, 99, 0, 10);
    Edge.due("10 tenths against 18", x.best(), 1);
  }

  private static void best() {
    Edge.promises(29, "The BEST STORY.");
    IceAtTheMiddle x = new IceAtTheMiddle();
    Edge.due("at first", x.best(), 0);
    Due.tell(x, 3, "00:5");
    x.bed(0, 1, 0, 0, 5, 10);
    Edge.due("the last", x.best(), 3);

    Edge.promises(29, "STATE.");
    x.weight(3, 0);
    Edge.due("others have a SLIDE", x.best(), 0);
    x.bed(0, 6, 0, 0, 5, 10);
    Edge.due("others have nothing", x.best(), STATE);
    x.weight(3, 1);
    Edge.due("it has", x.best(), 3);
    setWeights(x, 0, 0, 0, 0);
    Edge.due("none has", x.best(), STATE);
  }

  // ---- 30

  private static void moverMost() {
    Edge.says(30, "THE MOVER: the BED without which THE ODDS of the BEST STORY");
    // Of STORY 1 (the BEST) 384615 with all; 272727, 555555, 384615 without BED 0, 1, 2.
    IceAtTheMiddle x = withBands(2, 3, 1, 1);
    x.bed(0, 1, 0, 99, 1, 5);
    Edge.due("the one BED", x.mover(), 0);
    x.bed(1, 0, 0, 99, 1, 10);
    x.bed(2, 0, 0, 99, 5, 10);
    Edge.due("of three", x.mover(), 1);
    // Of STORY 0 666666 with both; 909090 without BED 0, 166666 without BED 1, where STORY 1 would be BEST with 833333.
    IceAtTheMiddle same = withBands(1, 1, 0, 0);
    same.bed(0, 1, 0, 99, 1, 10);
    same.bed(0, 2, 0, 99, 0, 10);
    Edge.due("of the one that is BEST with all BEDS", same.mover(), 1);

    Edge.says(30, " are most otherwise, more or less");
    // BED 0 says nothing in either: 625000 with BED 1 and 250000 without, 600000 and 750000.
    IceAtTheMiddle less = withBands(1, 1, 1, 1);
    less.bed(0, 1, 0, 99, 4, 10);
    less.bed(0, 1, 0, 99, 0, 10);
    Edge.due("less without it", less.mover(), 1);
    IceAtTheMiddle more = withBands(9, 1, 1, 1);
    more.bed(0, 0, 0, 99, 4, 10);
    more.bed(0, 0, 0, 99, 0, 10);
    Edge.due("more without it", more.mover(), 1);
  }

  private static void moverCut() {
    Edge.says(30, ", in millionths, cut,");
    // 500000 goes to 540540 and to 459459: one millionth farther by the cut alone.
    IceAtTheMiddle cut = withBands(2, 2, 0, 0);
    cut.bed(0, 11, 0, 99, 1, 3);
    cut.bed(0, 11, 0, 99, 0, 3);
    Edge.due("cut, not to the nearest", cut.mover(), 1);
    // By 31711, 9324, 84666, 84668 millionths.
    IceAtTheMiddle sixth = withBands(3, 6, 2, 0);
    Due.tell(sixth, 3, "99:");
    sixth.weight(3, 8);
    int[][] beds = {{10, 0, 8}, {11, 2, 3}, {11, 1, 6}, {5, 2, 8}};
    for (int[] b : beds) sixth.bed(0, b[0], 0, 99, b[1], b[2]);
    Edge.due("the sixth figure tells", sixth.mover(), 3);
    // By 39964, 51675, 51675 millionths; a seventh figure would tell the last two apart.
    IceAtTheMiddle seventh = withBands(5, 1, 3, 9);
    Due.tell(seventh, 3, "99:");
    int[][] like = {{10, 1, 2}, {13, 1, 0}, {10, 2, 8}};
    for (int[] b : like) seventh.bed(0, b[0], 0, 99, b[1], b[2]);
    Edge.due("there is no seventh", seventh.mover(), 1);
    // STORY 0 has all: 1000000, but 833333 without BED 0, 500000 without BED 1.
    IceAtTheMiddle all = withBands(5, 1, 5, 0);
    Due.tell(all, 0, "00:01");
    Due.tell(all, 2, "00:0");
    all.bed(0, 6, 0, 99, 0, 10);
    all.bed(0, 6, 0, 99, 1, 10);
    Edge.due("from a whole million", all.mover(), 1);
  }

  private static void moverLeast() {
    Edge.says(30, "(THE ODDS are 0 there, if without it nothing is left of any STORY); of like ones the least.");
    IceAtTheMiddle x = withBands(1, 1, 1, 1);
    for (int i = 0; i < 8; i++) x.bed(0, 1, 0, 99, 0, 10);
    Edge.due("eight that are like", x.mover(), 0);
    IceAtTheMiddle y = withBands(1, 1, 1, 1);
    for (int i = 0; i < 8; i++) y.bed(0, 0, 0, 99, 5, 10);
    Edge.due("none moves it", y.mover(), 0);
    IceAtTheMiddle z = withBands(1, 1, 1, 1);
    z.bed(0, 0, 0, 99, 5, 10);
    z.bed(0, 1, 0, 99, 0, 10);
    z.bed(0, 1, 0, 99, 0, 10);
    Edge.due("the second and the third are like", z.mover(), 1);
    // What is left with a BED is left without it, too: chances are 1 at most. So there it is less, not 0.
    IceAtTheMiddle alone = withBands(1, 9, 9, 9);
    alone.bed(0, 6, 0, 99, 0, 10);
    Edge.due("nothing is left but of the BEST", alone.mover(), 0);
  }

  private static void mover() {
    Edge.promises(30, "THE MOVER; NONE: there are no BEDS.");
    IceAtTheMiddle x = withBands(1, 1, 1, 1);
    Edge.due("no BEDS", x.mover(), NONE);
    x.bed(0, 0, 0, 0, 5, 0);
    Edge.due("one", x.mover(), 0);
    x.forget();
    Edge.due("no BEDS any more", x.mover(), NONE);

    Edge.promises(30, "STATE.");
    x.bed(0, 6, 0, 99, 4, 10);
    Edge.due("nothing is left by a BED", x.mover(), STATE);
    x.forget();
    x.bed(0, 0, 0, 0, 5, 0);
    setWeights(x, 0, 0, 0, 0);
    Edge.due("nothing is left by WEIGHTS", x.mover(), STATE);
  }

  // ---- 31

  private static void nextByTens() {
    Edge.says(31, "TO GO NEXT: a BAND and a ROUND (ROUNDS by 10: 0, 10, .. 90) at which the WEIGHTS times chances (as they are) of STORIES"
        + " that have ICE there");
    IceAtTheMiddle x = new IceAtTheMiddle();
    for (int tenth = 0; tenth < 10; tenth++) {
      for (int band = 1; band < 6; band++) {
        Due.tell(x, 2, tenth + "0:" + band + ";" + tenth + "1:");
        Edge.due("BAND " + band + " in " + 10 * tenth, x.next(), 10 * band + tenth);
      }
    }
    Due.tell(x, 2, "01:1;10:;11:2;20:;91:3");
    Edge.due("ICE in no ROUND by 10", x.next(), 0);
    // By WEIGHTS each has 1 of 4; by chances STORY 1 has 10 of 13, the others 1 each.
    IceAtTheMiddle y = withBands(1, 1, 1, 1);
    y.bed(0, 2, 0, 99, 1, 10);
    Edge.due("by chances", y.next(), 10);
    y.weight(1, 0);
    Edge.due("by WEIGHTS", y.next(), 0);
  }

  private static void nextNearest() {
    Edge.says(31, " come nearest to half of all");
    IceAtTheMiddle x = new IceAtTheMiddle();
    Due.tell(x, 0, "00:1234");
    Due.tell(x, 1, "00:234");
    Due.tell(x, 2, "00:34");
    Due.tell(x, 3, "00:4");
    Edge.due("half", x.next(), 20);
    setWeights(x, 3, 1, 1, 1);
    Edge.due("3 of 6", x.next(), 10);
    setWeights(x, 1, 1, 1, 3);
    Edge.due("3 of 6", x.next(), 30);
    setWeights(x, 1, 1, 1, 9);
    Edge.due("3 of 12 is nearer than all and less", x.next(), 30);
    setWeights(x, 0, 0, 0, 1);
    Edge.due("none and all are like", x.next(), 0);
    setWeights(x, 4, 0, 0, 5);
    Edge.due("4 of 9", x.next(), 10);
  }

  private static void nextLeast() {
    Edge.says(31, "; of like ones the least BAND, then ROUND.");
    IceAtTheMiddle x = new IceAtTheMiddle();
    Due.tell(x, 0, "00:5;10:2;90:");
    Due.tell(x, 1, "00:5;10:2;90:");
    Edge.due("BAND 2 in 10 ahead of BAND 5 in 0", x.next(), 21);
    Due.tell(x, 0, "00:012345");
    Due.tell(x, 1, "00:012345");
    Edge.due("all are half", x.next(), 0);
    Due.tell(x, 2, "00:012345;90:");
    Due.tell(x, 3, "00:012345;90:");
    Edge.due("the last ROUND", x.next(), 9);
    setWeights(x, 1, 0, 1, 1);
    Due.tell(x, 0, "00:4");
    Due.tell(x, 2, "00:3");
    Due.tell(x, 3, "99:");
    Edge.due("1 of 3 each", x.next(), 30);
    Due.tell(x, 3, "00:3");
    Edge.due("2 of 3 is as near as 1 of 3", x.next(), 30);
  }

  private static void next() {
    Edge.promises(31, "TO GO NEXT: 10 times the BAND, and the tenth part of the ROUND.");
    IceAtTheMiddle x = new IceAtTheMiddle();
    Edge.due("the least", x.next(), 0);
    Due.tell(x, 0, "90:5");
    Edge.due("the greatest", x.next(), 59);

    Edge.promises(31, "STATE.");
    setWeights(x, 0, 0, 0, 0);
    Edge.due("no WEIGHTS", x.next(), STATE);
    setWeights(x, 1, 1, 1, 1);
    x.bed(0, 6, 0, 0, 0, 10);
    Edge.due("no chances", x.next(), STATE);
  }
}
