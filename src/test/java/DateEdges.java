/** Edges of promises 32 to 41: DATES, LANDS, THE POLE ELSEWHERE, SLOTS. */
final class DateEdges {
  private static final int UNKNOWN = Edge.UNKNOWN, OUTSIDE = Edge.OUTSIDE, STATE = Edge.STATE, NONE = Edge.NONE;

  private DateEdges() {
  }

  static void all() {
    atOnce();
    once();
    fewest();
    asLateAsCanBe();
    times();
    onOneAnother();
    inOrder();
    order();
    gaps();
    gap();
    poles();
    pole();
    elsewhere();
    slots();
    keep();
    again();
    count();
  }

  /** ICY BEDS of these DATES, by turns of LANDS 0 to 3. */
  private static IceAtTheMiddle icy(int... dates) {
    IceAtTheMiddle x = new IceAtTheMiddle();
    for (int i = 0; i + 1 < dates.length; i += 2) x.bed(i / 2 % 4, 1 + i / 2 % 2, dates[i], dates[i + 1], 0, 0);
    return x;
  }

  /** BEDS that are not ICY, on one another in LAND 2. */
  private static IceAtTheMiddle pile(int... dates) {
    IceAtTheMiddle x = new IceAtTheMiddle();
    for (int i = 0; i + 1 < dates.length; i += 2) x.bed(2, 0, dates[i], dates[i + 1], 0, 0);
    return x;
  }

  // ---- 32 to 34

  private static void atOnce() {
    Edge.says(32, "AT ONCE are ICY BEDS, if there is a ROUND in the DATES of all.");
    Edge.due("they meet in one ROUND", icy(10, 20, 20, 30).once(), 20);
    Edge.due("they do not", icy(10, 20, 21, 30).once(), NONE);
    Edge.due("told the other way", icy(20, 30, 10, 20).once(), 20);
    Edge.due("one in another", icy(0, 99, 50, 50).once(), 50);
    Edge.due("each two meet, all three do too", icy(0, 50, 40, 99, 50, 60).once(), 50);
    Edge.due("eight", icy(0, 99, 1, 98, 2, 97, 3, 96, 4, 95, 5, 94, 6, 93, 93, 99).once(), 93);
    Edge.due("the eighth alone does not", icy(0, 99, 1, 98, 2, 97, 3, 96, 4, 95, 5, 94, 6, 93, 94, 99).once(), NONE);
  }

  private static void once() {
    Edge.promises(32, "The first ROUND in the DATES of all ICY BEDS; NONE: there is none, or no such BED.");
    Edge.due("no BED", icy().once(), NONE);
    Edge.due("none is ICY", pile(0, 99, 5, 6).once(), NONE);
    Edge.due("the first of one", icy(7, 9).once(), 7);
    Edge.due("ROUND 0", icy(0, 0).once(), 0);
    Edge.due("ROUND 99", icy(99, 99, 0, 99).once(), 99);
    IceAtTheMiddle x = pile(0, 5);
    x.bed(0, 1, 50, 60, 0, 0);
    Edge.due("one that is not ICY does not count", x.once(), 50);
  }

  private static void timesOf(String call, IceAtTheMiddle x, int... want) {
    Edge.due(call + ": how many", x.times(), want.length);
    for (int i = 0; i < want.length; i++) Edge.due(call + ": the time " + i, x.time(i), want[i]);
    Edge.due(call + ": no more", x.time(want.length), NONE);
  }

  private static void fewest() {
    Edge.says(33, "TIMES: the fewest ROUNDS such that each ICY BED has one in its DATE");
    timesOf("no BED", icy());
    timesOf("none is ICY", pile(0, 10, 50, 60));
    timesOf("one", icy(0, 99), 99);
    timesOf("they meet in one ROUND", icy(10, 20, 20, 30), 20);
    timesOf("they do not", icy(10, 20, 21, 30), 20, 30);
    timesOf("eight at once", icy(0, 50, 10, 51, 20, 52, 30, 53, 40, 54, 50, 55, 45, 56, 49, 57), 50);
    timesOf("eight apart", icy(14, 15, 12, 13, 10, 11, 8, 9, 6, 7, 4, 5, 2, 3, 0, 1), 1, 3, 5, 7, 9, 11, 13, 15);
    timesOf("the same ROUND eight times", icy(5, 5, 5, 5, 5, 5, 5, 5, 5, 5, 5, 5, 5, 5, 5, 5), 5);
    timesOf("the first and the last ROUND", icy(99, 99, 0, 0), 0, 99);
    timesOf("a long one is met by the way", icy(0, 99, 10, 10, 90, 90), 10, 90);
  }

  private static void asLateAsCanBe() {
    Edge.says(34, "those are told as late as can be, from the first on.");
    timesOf("the end, not the start", icy(10, 30, 15, 40), 30);
    timesOf("the first is late, then the second", icy(0, 10, 5, 20, 15, 30), 10, 30);
    timesOf("the second as late", icy(0, 10, 20, 40, 30, 35), 10, 35);
    timesOf("three", icy(0, 9, 9, 18, 10, 19, 19, 30, 20, 31), 9, 19, 31);
  }

  private static void times() {
    Edge.promises(33, "How many TIMES there must have been at least.");
    Edge.due("none", icy().times(), 0);
    Edge.due("one", icy(0, 0).times(), 1);
    Edge.due("eight", icy(0, 0, 1, 1, 2, 2, 3, 3, 4, 4, 5, 5, 6, 6, 7, 7).times(), 8);

    Edge.promises(34, "The ROUND of the i-th of them (from 0); NONE.");
    IceAtTheMiddle x = icy(0, 0, 99, 99);
    Edge.due("0", x.time(0), 0);
    Edge.due("1", x.time(1), 99);
    Edge.due("2", x.time(2), NONE);
    for (int far : Edge.FAR) Edge.due("time " + far, x.time(far), NONE);
    Edge.due("none of none", icy().time(0), NONE);
    IceAtTheMiddle eight = icy(0, 0, 1, 1, 2, 2, 3, 3, 4, 4, 5, 5, 6, 6, 7, 7);
    Edge.due("the eighth", eight.time(7), 7);
    Edge.due("no ninth", eight.time(8), NONE);
  }

  // ---- 35, 36

  private static void onOneAnother() {
    Edge.says(35, "BEDS of a LAND lie on one another as they are told.");
    Edge.due("the later one above", pile(10, 20, 30, 40).order(2), 1);
    Edge.due("the later one below", pile(30, 40, 10, 20).order(2), 0);
    IceAtTheMiddle x = new IceAtTheMiddle();
    x.bed(0, 0, 30, 40, 0, 0);
    x.bed(1, 0, 10, 20, 0, 0);
    Edge.due("not those of another LAND", x.order(0), 1);
    Edge.due("not those of another LAND", x.order(1), 1);
    x.bed(0, 0, 10, 20, 0, 0);
    Edge.due("those of its own", x.order(0), 0);
  }

  private static void inOrder() {
    Edge.says(35, "A LAND is IN ORDER, if ROUNDS may be given to its BEDS, each in its DATE, none ahead of that of a BED that lies below it.");
    Edge.due("the same ROUND", pile(20, 30, 10, 20).order(2), 1);
    Edge.due("one ROUND ahead", pile(20, 30, 10, 19).order(2), 0);
    Edge.due("all in one", pile(50, 50, 50, 50, 50, 50).order(2), 1);
    Edge.due("not the one below, but the one below that", pile(50, 60, 0, 99, 40, 49).order(2), 0);
    Edge.due("just so", pile(50, 60, 0, 99, 40, 50).order(2), 1);
    Edge.due("eight", pile(0, 99, 1, 1, 0, 99, 2, 2, 0, 99, 3, 3, 0, 99, 4, 4).order(2), 1);
    Edge.due("the eighth", pile(0, 99, 1, 1, 0, 99, 2, 2, 0, 99, 4, 4, 0, 99, 3, 3).order(2), 0);
    Edge.due("all of time", pile(0, 0, 99, 99).order(2), 1);
    Edge.due("all of time back", pile(99, 99, 0, 0).order(2), 0);
  }

  private static void order() {
    Edge.promises(35, "Whether a LAND is IN ORDER: 1, 0.");
    IceAtTheMiddle x = pile(99, 99, 0, 0);
    int[] want = {1, 1, 0, 1};
    for (int land = 0; land < 4; land++) Edge.due("LAND " + land, x.order(land), want[land]);
    Edge.due("no BEDS", pile().order(2), 1);
    Edge.due("one BED", pile(5, 5).order(2), 1);

    Edge.promises(35, "UNKNOWN.");
    Edge.due("4", x.order(4), UNKNOWN);
    for (int far : Edge.FAR) Edge.due("LAND " + far, x.order(far), UNKNOWN);
  }

  private static void gaps() {
    Edge.says(36, "A GAP below a BED (that lies on another one): the most that its ROUND may be more than that of the one on which it lies,"
        + " where all of the LAND is IN ORDER.");
    Edge.due("from the oldest to the youngest", pile(10, 20, 30, 40).gap(1), 30);
    Edge.due("none", pile(20, 30, 10, 20).gap(1), 0);
    Edge.due("all of time", pile(0, 99, 0, 99).gap(1), 99);
    Edge.due("one below both makes it less", pile(15, 99, 10, 20, 30, 40).gap(2), 25);
    Edge.due("one above both makes it less", pile(10, 20, 30, 40, 0, 35).gap(1), 25);
    Edge.due("one above that", pile(10, 20, 30, 40, 0, 99, 0, 32).gap(1), 22);
    Edge.due("both make it none", pile(50, 60, 0, 99, 0, 99, 40, 50).gap(2), 0);
    IceAtTheMiddle x = pile(10, 20);
    x.bed(1, 0, 0, 0, 0, 0);
    x.bed(2, 0, 30, 40, 0, 0);
    x.bed(3, 0, 35, 35, 0, 0);
    Edge.due("BEDS of other LANDS are between and above", x.gap(2), 30);
  }

  private static void gap() {
    Edge.promises(36, "The GAP below a BED.");
    IceAtTheMiddle x = pile(0, 9, 10, 19, 20, 29);
    Edge.due("of BED 1", x.gap(1), 19);
    Edge.due("of BED 2", x.gap(2), 19);

    Edge.promises(36, "UNKNOWN; STATE: it lies on none, or its LAND is not IN ORDER.");
    Edge.due("BED 3 of three", x.gap(3), UNKNOWN);
    Edge.due("no BEDS", pile().gap(0), UNKNOWN);
    for (int far : Edge.FAR) Edge.due("BED " + far, x.gap(far), UNKNOWN);
    Edge.due("it lies on none", x.gap(0), STATE);
    x.bed(1, 0, 50, 50, 0, 0);
    Edge.due("it lies on none of its LAND", x.gap(3), STATE);
    x.bed(2, 0, 0, 19, 0, 0);
    Edge.due("not IN ORDER by one above", x.gap(1), STATE);
    Edge.due("not IN ORDER by itself", x.gap(4), STATE);
    x.bed(1, 0, 50, 50, 0, 0);
    Edge.due("another LAND is", x.gap(5), 0);
    x.forget();
    x.forget();
    Edge.due("it is so again", x.gap(1), 19);
  }

  // ---- 37, 38

  private static void poles() {
    Edge.says(37, "THE POLE ELSEWHERE by k BANDS (0 to 5): a NEEDLE's BAND b is then k less b, or b less k, if that is not below 0.");
    for (int ice = 0; ice < 6; ice++) {
      for (int needle = 0; needle < 6; needle++) {
        IceAtTheMiddle x = new IceAtTheMiddle();
        Due.tell(x, 0, "00:" + ice);
        x.bed(0, 1, 0, 99, needle, 10);
        for (int k = 0; k < 6; k++) {
          boolean there = needle - k == ice || k - needle == ice;
          Edge.due("NEEDLE " + needle + " by " + k, x.pole(0, k), there ? 1 : 0);
        }
      }
    }
    IceAtTheMiddle x = new IceAtTheMiddle();
    Edge.due("k -1", x.pole(0, -1), OUTSIDE);
    Edge.due("k 6", x.pole(0, 6), OUTSIDE);

    Edge.says(38, "How many ICY BEDS a STORY EXPLAINS then; the k by which it EXPLAINS most, of like ones the least.");
    Due.tell(x, 0, "10:0;20:");
    x.bed(0, 1, 0, 9, 5, 10);
    x.bed(0, 4, 10, 10, 4, 10);
    Edge.due("none in its DATE, or not ICY: of like ones the least", x.elsewhere(0), 0);
    x.bed(0, 2, 0, 10, 3, 0);
    Edge.due("one", x.elsewhere(0), 3);
    x.bed(0, 2, 19, 99, 5, 0);
    Edge.due("one each", x.elsewhere(0), 3);
    x.bed(0, 2, 19, 19, 5, 0);
    Edge.due("two by 5", x.elsewhere(0), 5);
    x.bed(0, 3, 0, 99, 3, 0);
    Edge.due("two each", x.elsewhere(0), 3);
  }

  private static void pole() {
    Edge.promises(37, "How many ICY BEDS a STORY EXPLAINS with THE POLE ELSEWHERE.");
    IceAtTheMiddle x = new IceAtTheMiddle();
    Due.tell(x, 0, "00:012345");
    Edge.due("no BEDS", x.pole(0, 0), 0);
    for (int i = 0; i < 8; i++) x.bed(0, i % 4, 0, 0, 0, 0);
    for (int k = 0; k < 6; k++) {
      Edge.due("six of eight are ICY", x.pole(0, k), 6);
      Edge.due("a STORY without ICE", x.pole(1, k), 0);
    }

    Edge.promises(37, "UNKNOWN; OUTSIDE: k.");
    Edge.due("STORY 4", x.pole(4, 0), UNKNOWN);
    Edge.due("k 6", x.pole(0, 6), OUTSIDE);
    for (int far : Edge.FAR) {
      Edge.due("STORY " + far, x.pole(far, 0), UNKNOWN);
      Edge.due("k " + far, x.pole(0, far), OUTSIDE);
    }
  }

  private static void elsewhere() {
    Edge.promises(38, "The k by which it EXPLAINS most.");
    for (int needle = 0; needle < 6; needle++) {
      IceAtTheMiddle x = new IceAtTheMiddle();
      Due.tell(x, 3, "00:0");
      x.bed(0, 1, 0, 0, needle, 0);
      Edge.due("NEEDLE " + needle, x.elsewhere(3), needle);
    }
    IceAtTheMiddle x = new IceAtTheMiddle();
    Edge.due("no BEDS", x.elsewhere(0), 0);

    Edge.promises(38, "UNKNOWN.");
    Edge.due("4", x.elsewhere(4), UNKNOWN);
    for (int far : Edge.FAR) Edge.due("STORY " + far, x.elsewhere(far), UNKNOWN);
  }

  // ---- 39 to 41

  private static IceAtTheMiddle withEight() {
    IceAtTheMiddle x = new IceAtTheMiddle();
    for (int i = 0; i < 8; i++) x.bed(i % 4, 15 - i, 10 + i, 90 + i, i % 6, 10 - i);
    for (int story = 0; story < 4; story++) x.weight(story, 9 - story);
    return x;
  }

  private static void slots() {
    Edge.says(40, "SLOTS 0 to 1 keep all BEDS and WEIGHTS.");
    for (int slot = 0; slot < 2; slot++) {
      IceAtTheMiddle x = withEight();
      x.keep(slot);
      for (int i = 0; i < 8; i++) x.forget();
      for (int i = 0; i < 8; i++) x.bed(0, 0, 0, 0, 0, 0);
      for (int story = 0; story < 4; story++) x.weight(story, 0);
      Edge.due("all eight", x.again(slot), 8);
      for (int i = 0; i < 8; i++) {
        int[] want = {i % 4, 15 - i, 10 + i, 90 + i, i % 6, 10 - i};
        for (int what = 0; what < 6; what++) Edge.due("BED " + i + " " + what, x.about(i, what), want[what]);
      }
      for (int story = 0; story < 4; story++) Edge.due("WEIGHT " + story, x.weight(story, 1), 9 - story);
    }
    IceAtTheMiddle x = withEight();
    Edge.due("no SLOT 2", x.again(2), UNKNOWN);
    Edge.due("no SLOT -1", x.again(-1), UNKNOWN);
  }

  private static void keep() {
    Edge.promises(39, "BEDS and WEIGHTS are kept: how many BEDS.");
    IceAtTheMiddle x = new IceAtTheMiddle();
    Edge.due("none", x.keep(0), 0);
    for (int i = 0; i < 8; i++) {
      x.bed(0, 0, i, i, 0, 0);
      Edge.due(i + 1 + " in the other one", x.keep(1), i + 1);
    }
    Edge.due("all are there still", x.count(1), 8);
    Edge.due("none in the first", x.again(0), 0);
    Edge.due("eight in the second", x.again(1), 8);
    x.forget();
    Edge.due("fewer than before", x.keep(1), 7);
    x.forget();
    Edge.due("what was kept last", x.again(1), 7);

    Edge.promises(39, "UNKNOWN.");
    IceAtTheMiddle y = withEight();
    Edge.due("2", y.keep(2), UNKNOWN);
    for (int far : Edge.FAR) Edge.due("SLOT " + far, y.keep(far), UNKNOWN);
    Edge.due("nothing was kept in 0", y.again(0), STATE);
    Edge.due("nothing was kept in 1", y.again(1), STATE);
  }

  private static void again() {
    Edge.promises(40, "They are as they were kept: how many BEDS.");
    IceAtTheMiddle x = new IceAtTheMiddle();
    x.keep(0);
    x.bed(1, 1, 1, 1, 1, 1);
    x.weight(0, 9);
    Due.text(x, "R5");
    x.law();
    Due.tell(x, 0, "00:4");
    Edge.due("none", x.again(0), 0);
    Edge.due("no BEDS", x.count(1), 0);
    Edge.due("the WEIGHT", x.weight(0, 3), 1);
    Edge.due("and again", x.again(0), 0);
    Edge.due("the SLOT is as it was", x.weight(0, 3), 1);
    Edge.due("THE LAW is as it is", x.lawful(6), 5);
    Edge.due("a STORY is as it is", x.at(0, 0), 16);
    Edge.due("THE TEXT is as it is", x.count(0), 4);
    IceAtTheMiddle y = withEight();
    y.keep(1);
    y.forget();
    y.bed(3, 3, 3, 3, 3, 3);
    Edge.due("eight", y.again(1), 8);
    Edge.due("the eighth as it was kept", y.about(7, 3), 97);

    Edge.promises(40, "UNKNOWN; STATE: none were kept.");
    Edge.due("2", x.again(2), UNKNOWN);
    for (int far : Edge.FAR) Edge.due("SLOT " + far, x.again(far), UNKNOWN);
    Edge.due("none in the other one", x.again(1), STATE);
    Edge.due("none in the first", y.again(0), STATE);
    Edge.due("BEDS are as they were", y.count(1), 8);
  }

  private static void count() {
    Edge.promises(41, "0 bytes of THE TEXT, 1 BEDS, 2 ICY ones, 3 WEIGHTS together.");
    IceAtTheMiddle x = new IceAtTheMiddle();
    int[] first = {0, 0, 0, 4};
    for (int what = 0; what < 4; what++) Edge.due("at first: " + what, x.count(what), first[what]);
    for (int i = 0; i < 6; i++) x.write(8, 0);
    for (int i = 0; i < 8; i++) x.bed(0, 1 + i % 3, 0, 0, 0, 0);
    for (int story = 0; story < 4; story++) x.weight(story, 9);
    int[] most = {48, 8, 8, 36};
    for (int what = 0; what < 4; what++) Edge.due("the most: " + what, x.count(what), most[what]);
    for (int story = 0; story < 4; story++) x.weight(story, 0);
    Edge.due("no WEIGHTS", x.count(3), 0);
    Edge.due("none is ICY", pile(0, 0, 1, 1).count(2), 0);

    Edge.promises(41, "OUTSIDE.");
    Edge.due("4", x.count(4), OUTSIDE);
    for (int far : Edge.FAR) Edge.due("what " + far, x.count(far), OUTSIDE);
  }
}
