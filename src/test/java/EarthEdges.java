/** Edges of promises 10 to 21: WARMTH, ROUNDS, RUNS, RESTS, CURVES. */
final class EarthEdges {
  private static final int UNKNOWN = Edge.UNKNOWN, OUTSIDE = Edge.OUTSIDE, NONE = Edge.NONE;
  /** WARMTH is AIR: ICE comes below 10, and goes at 15. */
  private static final String BY_AIR = "G1F10M5";
  /** WARMTH is AIR: ICE comes at 0, till when AIR falls by 1 a ROUND. */
  private static final String FALLING = "G1F01V5W1";
  /** LIGHT of 20, or 10 under ICE: WHITE goes at AIR 15, bare ends at AIR 4; AIR rises and falls between. */
  private static final String BREATHING = "L020L120L220L320L420L520R5G1F25V1W1";
  /** As that, but AIR stays. */
  private static final String STILL = "L020L120L220L320L420L520R5G1F25";
  /** ICE throws nothing back: BANDS 0 to 5 are bare from AIR 3, 10, 20, 30, 40, 48 on, one by one. */
  private static final String GRADUAL = "L050L140L230L320L410G1F50";
  /** BANDS 4 and 5 have ICE, others have none, whatever there was. */
  private static final String TWO = "L099L199L299F05";

  private EarthEdges() {
  }

  static void all() {
    bands();
    ice();
    air();
    taken();
    warmthOfBands();
    warmth();
    freezing();
    melting();
    others();
    allAtOnce();
    airOfRound();
    round();
    after();
    runs();
    white();
    run();
    till();
    restsHeld();
    rests();
    rest();
    settling();
    settle();
    curves();
    jumpsByTwo();
    jumps();
    jump();
    curve();
    least();
  }

  private interface Call {
    int of(int ice, int air);
  }

  private static void outside(Call call) {
    Edge.due("ICE 64", call.of(64, 0), OUTSIDE);
    Edge.due("AIR 100", call.of(0, 100), OUTSIDE);
    Edge.due("both", call.of(64, 100), OUTSIDE);
    for (int far : Edge.FAR) {
      Edge.due("ICE " + far, call.of(far, 0), OUTSIDE);
      Edge.due("AIR " + far, call.of(0, far), OUTSIDE);
    }
  }

  // ---- 10

  private static void bands() {
    Edge.says(10, "BANDS 0 to 5: 0 at the middle, 5 at the pole.");
    IceAtTheMiddle x = Due.withLaw("L060L150L240L330L420L510R5");
    int[] want = {2300, 2000, 1600, 1200, 800, 500};
    for (int band = 0; band < 6; band++) Edge.due("BAND " + band, x.warmth(band, 0, 0), want[band]);
    Edge.due("BAND -1", x.warmth(-1, 0, 0), UNKNOWN);
    Edge.due("BAND 6", x.warmth(6, 0, 0), UNKNOWN);
  }

  private static void ice() {
    Edge.says(10, "ICE is a set of BANDS (bits).");
    IceAtTheMiddle x = Due.withLaw("L010L110L210L310L410L510R9");
    for (int band = 0; band < 6; band++) {
      boolean inner = band > 0 && band < 5;
      Edge.due("none", x.warmth(band, 0, 0), 400);
      Edge.due("that alone", x.warmth(band, 1 << band, 0), inner ? 220 : 130);
      Edge.due("all but that", x.warmth(band, 63 ^ 1 << band, 0), inner ? 220 : 310);
      Edge.due("all", x.warmth(band, 63, 0), 40);
    }
    Edge.due("no seventh bit", x.warmth(0, 64, 0), OUTSIDE);
    Edge.due("no eighth bit", x.warmth(0, 128 | 63, 0), OUTSIDE);
    Edge.due("below 0", x.warmth(0, -1, 0), OUTSIDE);
  }

  private static void air() {
    Edge.says(10, "AIR is 0 to 99.");
    IceAtTheMiddle x = Due.withLaw("G1");
    Edge.due("-1", x.warmth(0, 0, -1), OUTSIDE);
    Edge.due("0", x.warmth(0, 0, 0), 0);
    Edge.due("1", x.warmth(0, 0, 1), 40);
    Edge.due("99", x.warmth(0, 0, 99), 3960);
    Edge.due("100", x.warmth(0, 0, 100), OUTSIDE);
  }

  private static void taken() {
    Edge.says(10, "TAKEN by a BAND: its LIGHT times 10, or times 10 less R, if it has ICE.");
    String lights = "L099L199L299L399L499L599";
    Edge.due("the most LIGHT", Due.withLaw(lights).warmth(2, 0, 0), 3960);
    Edge.due("R 0 throws nothing back", Due.withLaw(lights + "R0").warmth(2, 63, 0), 3960);
    Edge.due("R 9 leaves a tenth", Due.withLaw(lights + "R9").warmth(2, 63, 0), 396);
    Edge.due("without ICE R is nothing", Due.withLaw(lights + "R9").warmth(2, 0, 0), 3960);
    Edge.due("R 1", Due.withLaw("L201R1").warmth(2, 4, 0), 18);
    Edge.due("no LIGHT", Due.withLaw("R9").warmth(2, 63, 0), 0);
  }

  private static void warmthOfBands() {
    Edge.says(10, "WARMTH of a BAND: twice what is TAKEN by it, and what is by each one beside it (of BAND 0 one beside it is BAND 0,"
        + " of BAND 5 one is BAND 5), by 40, and G times AIR.");
    int[][] want = {{300, 100, 0, 0, 0, 0}, {100, 200, 100, 0, 0, 0}, {0, 100, 200, 100, 0, 0}, {0, 0, 100, 200, 100, 0},
        {0, 0, 0, 100, 200, 100}, {0, 0, 0, 0, 100, 300}};
    for (int lit = 0; lit < 6; lit++) {
      IceAtTheMiddle x = Due.withLaw("L" + lit + "10");
      for (int band = 0; band < 6; band++) Edge.due("LIGHT at " + lit + " for " + band, x.warmth(band, 0, 99), want[lit][band]);
    }
    Edge.due("all that can be", Due.withLaw("L099L199G9").warmth(0, 0, 99), 39600);
    Edge.due("G 9 alone", Due.withLaw("G9").warmth(5, 63, 99), 35640);
  }

  private static void warmth() {
    Edge.promises(10, "40 times the WARMTH of a BAND.");
    Edge.due("less than 1", Due.withLaw("L001R9").warmth(0, 1, 0), 3);
    Edge.due("1 of 40", Due.withLaw("L001R9").warmth(1, 1, 0), 1);
    Edge.due("nothing", Due.withLaw("").warmth(5, 0, 99), 0);

    Edge.promises(10, "UNKNOWN; OUTSIDE: ice, air.");
    IceAtTheMiddle x = new IceAtTheMiddle();
    Edge.due("6", x.warmth(6, 0, 0), UNKNOWN);
    for (int far : Edge.FAR) Edge.due("BAND " + far, x.warmth(far, 0, 0), UNKNOWN);
    outside((ice, air) -> x.warmth(5, ice, air));
  }

  // ---- 11

  private static void freezing() {
    Edge.says(11, "A ROUND: BANDS whose WARMTH is less than F have ICE then");
    IceAtTheMiddle x = Due.withLaw(BY_AIR);
    Edge.due("at 9", x.round(0, 9), 6309);
    Edge.due("at 10 not", x.round(0, 10), 10);
    Edge.due("at 0", x.round(0, 0), 6300);
    Edge.due("39 by 40 is less than 1", Due.withLaw("L013R9F01").round(1, 0), 6300);
    Edge.due("40 by 40 is not", Due.withLaw("L010L110R9F01").round(3, 0), 6200);
    Edge.due("below 0 is none", Due.withLaw("").round(0, 0), 0);
    Edge.due("99 is not below F 99", Due.withLaw("G1F99").round(0, 99), 99);
    Edge.due("98 is", Due.withLaw("G1F99").round(0, 98), 6398);
  }

  private static void melting() {
    Edge.says(11, "those whose WARMTH is F and M or more have not");
    IceAtTheMiddle x = Due.withLaw(BY_AIR);
    Edge.due("at 14 not yet", x.round(63, 14), 6314);
    Edge.due("at 15", x.round(63, 15), 15);
    Edge.due("above", x.round(63, 99), 99);
    Edge.due("40 by 40 is 1", Due.withLaw("L010L110R9M1").round(3, 0), 200);
    Edge.due("39 by 40 is not", Due.withLaw("L010L109R9M1").round(3, 0), 300);
    Edge.due("M 0", Due.withLaw("G1F10").round(63, 10), 10);
    Edge.due("M 9", Due.withLaw("G1F90M9").round(63, 98), 6398);
    Edge.due("M 9", Due.withLaw("G1F90M9").round(63, 99), 99);
  }

  private static void others() {
    Edge.says(11, "others as they had");
    IceAtTheMiddle x = Due.withLaw(BY_AIR);
    for (int ice : new int[] {0, 1, 21, 32, 42, 63}) {
      for (int air = 10; air < 15; air++) Edge.due(ice + " at " + air, x.round(ice, air), 100 * ice + air);
      Edge.due(ice + " at 9", x.round(ice, 9), 6309);
      Edge.due(ice + " at 15", x.round(ice, 15), 15);
    }
    Edge.due("by M 0 there are none", Due.withLaw("G1F10").round(21, 10), 10);
    Edge.due("by M 0 there are none", Due.withLaw("G1F10").round(21, 9), 6309);
  }

  private static void allAtOnce() {
    Edge.says(11, "all at once");
    IceAtTheMiddle x = Due.withLaw(BREATHING);
    Edge.due("one BAND goes, not all behind it", x.round(31, 14), 1514);
    Edge.due("from the other end", x.round(62, 14), 6014);
    Edge.due("one BAND comes, not all behind it", x.round(1, 6), 302);
    Edge.due("from the other end", x.round(32, 6), 4802);
  }

  private static void airOfRound() {
    Edge.says(11, "AIR is V more, and W less for each BAND that had no ICE (not below 0, not above 99).");
    String[] laws = {"V9", "V9", "V9", "V9", "W9", "W9", "W9", "W9", "W9", "W9", "W9", "W9", "V9W2", "V9W1", "V3W1", "V3W1", "V3W1"};
    int[][] rounds = {{63, 89, 98}, {63, 90, 99}, {63, 91, 99}, {0, 99, 99}, {0, 53, 0}, {0, 54, 0}, {0, 55, 1}, {0, 0, 0},
        {62, 8, 0}, {62, 9, 0}, {62, 10, 1}, {63, 50, 50}, {0, 99, 96}, {0, 0, 3}, {0, 2, 0}, {0, 3, 0}, {0, 4, 1}};
    for (int i = 0; i < laws.length; i++) {
      String call = laws[i] + " from " + rounds[i][0] + " at " + rounds[i][1];
      Edge.due(call, Due.withLaw(laws[i]).round(rounds[i][0], rounds[i][1]), rounds[i][2]);
    }
    Edge.due("what had no ICE takes, though it has then", Due.withLaw("F99W9").round(0, 60), 6306);
    Edge.due("not below 0", Due.withLaw("F99W9").round(0, 50), 6300);
    for (int bare = 0; bare <= 6; bare++) {
      Edge.due(bare + " take", Due.withLaw("W1").round(63 >> bare, 50), 50 - bare);
    }
  }

  private static void round() {
    Edge.promises(11, "A ROUND: 100 times ICE, and AIR.");
    Edge.due("the least", Due.withLaw("").round(0, 0), 0);
    Edge.due("the greatest", Due.withLaw("F99").round(63, 99), 6399);
    Edge.due("ICE 32 alone", Due.withLaw("M1").round(32, 1), 3201);

    Edge.promises(11, "OUTSIDE: ice, air.");
    outside(new IceAtTheMiddle()::round);
  }

  // ---- 12 to 14

  private static void after() {
    Edge.promises(12, "So many ROUNDS (0 to 100000): 100 times ICE, and AIR.");
    IceAtTheMiddle x = Due.withLaw(BREATHING);
    int[][] want = {{63, 0, 0, 6300}, {63, 0, 19, 1}, {63, 0, 20, 6300}, {63, 0, 21, 6301}, {63, 0, 39, 1}, {63, 0, 40, 6300},
        {63, 0, 99999, 1}, {63, 0, 100000, 6300}, {0, 99, 0, 99}, {0, 99, 20, 6300}, {0, 99, 99999, 1}, {0, 99, 100000, 6300},
        {17, 99, 0, 1799}, {0, 2, 1, 6300}, {0, 2, 20, 1}, {0, 2, 21, 6300}, {0, 2, 100000, 1}, {0, 17, 4, 6300}, {0, 17, 24, 6300},
        {0, 17, 25, 6301}, {0, 17, 100000, 16}};
    for (int[] w : want) Edge.due(w[0] + " " + w[1] + " by " + w[2], x.after(w[0], w[1], w[2]), w[3]);
    IceAtTheMiddle still = Due.withLaw("");
    Edge.due("nothing changes", still.after(0, 99, 100000), 99);
    Edge.due("none is no ROUND", still.after(63, 99, 0), 6399);
    Edge.due("one is", still.after(63, 99, 1), 99);

    Edge.promises(12, "OUTSIDE.");
    Edge.due("100001", x.after(0, 0, 100001), OUTSIDE);
    for (int far : Edge.FAR) Edge.due("ROUNDS " + far, x.after(0, 0, far), OUTSIDE);
    outside((ice, air) -> x.after(ice, air, 0));
  }

  private static void runOf(IceAtTheMiddle x, int ice, int air, int... want) {
    for (int what = 0; what < 5; what++) Edge.due("run(" + ice + ", " + air + ", " + what + ")", x.run(ice, air, what), want[what]);
  }

  private static void runs() {
    Edge.says(13, "A RUN goes from ICE and AIR ROUND by ROUND till both are as they were before: LEAD ROUNDS are ahead of the first"
        + " of the RING, LONG ones are in it.");
    runOf(Due.withLaw(""), 0, 0, 0, 1, 0, 0, 0);
    runOf(Due.withLaw(""), 63, 99, 1, 1, 0, 99, 99);
    runOf(Due.withLaw("V1"), 0, 0, 99, 1, 0, 99, 99);
    runOf(Due.withLaw("V1"), 0, 98, 1, 1, 0, 99, 99);
    runOf(Due.withLaw("V1"), 0, 99, 0, 1, 0, 99, 99);
    // ICE stays for many ROUNDS of this RING, and some AIR comes twice in it: neither is both.
    runOf(Due.withLaw(BREATHING), 63, 0, 0, 20, 16, 0, 16);
    runOf(Due.withLaw(BREATHING), 0, 1, 0, 20, 16, 0, 16);
    runOf(Due.withLaw(BREATHING), 0, 2, 1, 20, 16, 0, 16);
    runOf(Due.withLaw(BREATHING), 0, 17, 4, 20, 16, 0, 16);
  }

  private static void white() {
    Edge.says(13, "WHITE is ICE of all BANDS.");
    IceAtTheMiddle x = Due.withLaw("M1");
    for (int ice = 0; ice < 64; ice++) Edge.due("ICE " + ice, x.run(ice, 0, 2), ice == 63 ? 1 : 0);
  }

  private static void run() {
    Edge.promises(13, "LEAD (what = 0), LONG (1) of a RUN, how many ROUNDS of its RING are WHITE (2), the least AIR in its RING (3),"
        + " the greatest (4).");
    // What is ahead of the RING counts for none of the last three.
    runOf(Due.withLaw(BREATHING), 0, 99, 20, 20, 16, 0, 16);
    runOf(Due.withLaw("V9"), 63, 0, 11, 1, 0, 99, 99);
    runOf(Due.withLaw("W9"), 0, 99, 2, 1, 0, 0, 0);
    runOf(Due.withLaw("F99"), 0, 99, 1, 1, 1, 99, 99);
    // What an earlier RUN left is nothing to the next one.
    IceAtTheMiddle one = Due.withLaw("V1");
    one.run(0, 0, 0);
    Due.text(one, BREATHING);
    one.law();
    Edge.due("the greatest AIR behind a longer RUN", one.run(63, 0, 4), 16);
    runOf(one, 0, 99, 20, 20, 16, 0, 16);
    runOf(one, 63, 0, 0, 20, 16, 0, 16);

    Edge.promises(13, "OUTSIDE.");
    IceAtTheMiddle x = new IceAtTheMiddle();
    Edge.due("5", x.run(0, 0, 5), OUTSIDE);
    for (int far : Edge.FAR) Edge.due("what " + far, x.run(0, 0, far), OUTSIDE);
    for (int what = 0; what < 5; what++) {
      int which = what;
      outside((ice, air) -> x.run(ice, air, which));
    }
  }

  private static void till() {
    Edge.promises(14, "How many ROUNDS it is till ICE is WHITE (white = true), is not (0: it is so now); NONE: never.");
    IceAtTheMiddle x = Due.withLaw(FALLING);
    Edge.due("WHITE now", x.till(63, 99, true), 0);
    Edge.due("not so now", x.till(62, 99, false), 0);
    Edge.due("in one ROUND", x.till(0, 0, true), 1);
    Edge.due("in a hundred", x.till(0, 99, true), 100);
    Edge.due("it is so in ROUND 1, too", x.till(63, 0, false), 2);
    Edge.due("in one ROUND", x.till(63, 1, false), 1);
    IceAtTheMiddle y = Due.withLaw("M1");
    Edge.due("never by five of six", y.till(31, 0, true), NONE);
    Edge.due("never otherwise", y.till(63, 0, false), NONE);
    Edge.due("never again", Due.withLaw("").till(62, 0, true), NONE);
    Edge.due("the last ROUND of WHITE", Due.withLaw(BREATHING).till(63, 15, false), 1);
    Edge.due("the last ROUND without", Due.withLaw(BREATHING).till(0, 1, true), 1);

    Edge.promises(14, "OUTSIDE: ice, air.");
    outside((ice, air) -> x.till(ice, air, true));
    outside((ice, air) -> x.till(ice, air, false));
  }

  // ---- 15 to 17

  private static void restsHeld() {
    Edge.says(15, "A REST at an AIR (that is held): ICE that stays so by a ROUND.");
    Edge.due("WHITE, though AIR would rise", Due.withLaw("F99V9").rests(0), 1);
    Edge.due("bare, though AIR would fall", Due.withLaw(FALLING).rests(1), 1);
    Edge.due("one of both", Due.withLaw(STILL).rests(4), 1);
    Edge.due("both", Due.withLaw(STILL).rests(14), 2);
    Edge.due("one of both", Due.withLaw(STILL).rests(15), 1);
  }

  private static void rests() {
    Edge.promises(15, "How many RESTS there are at an AIR.");
    IceAtTheMiddle x = Due.withLaw(BY_AIR);
    int[][] want = {{0, 1}, {9, 1}, {10, 64}, {14, 64}, {15, 1}, {99, 1}};
    for (int[] w : want) Edge.due("at " + w[0], x.rests(w[0]), w[1]);

    Edge.promises(15, "OUTSIDE.");
    Edge.due("100", x.rests(100), OUTSIDE);
    for (int far : Edge.FAR) Edge.due("AIR " + far, x.rests(far), OUTSIDE);
  }

  private static void rest() {
    Edge.promises(16, "The i-th REST (from 0; by ICE as a number); NONE.");
    IceAtTheMiddle x = Due.withLaw(BY_AIR);
    for (int i = 0; i < 64; i++) Edge.due("rest " + i, x.rest(10, i), i);
    Edge.due("a 65th", x.rest(10, 64), NONE);
    Edge.due("the one", x.rest(9, 0), 63);
    Edge.due("no second", x.rest(9, 1), NONE);
    IceAtTheMiddle y = Due.withLaw(STILL);
    Edge.due("the less", y.rest(14, 0), 0);
    Edge.due("the greater", y.rest(14, 1), 63);
    Edge.due("no third", y.rest(14, 2), NONE);
    for (int far : Edge.FAR) Edge.due("rest " + far, y.rest(14, far), NONE);

    Edge.promises(16, "OUTSIDE: air.");
    Edge.due("100", x.rest(100, 0), OUTSIDE);
    Edge.due("100, and no such REST", x.rest(100, -1), OUTSIDE);
    for (int far : Edge.FAR) Edge.due("AIR " + far, x.rest(far, 0), OUTSIDE);
  }

  /**
   * No LAW was found by which ICE does not SETTLE, and there is none: what a BAND takes goes to itself and to those beside
   * it by 2, 1, 1 (at the ends 3, 1), and such a table of weights lets no ICE come back but by staying. So all is a REST.
   */
  private static void settling() {
    Edge.says(17, "To SETTLE at an AIR: ROUNDS with that AIR held till ICE is a REST; NONE: it never is.");
    IceAtTheMiddle x = Due.withLaw(FALLING);
    Edge.due("AIR is held at 99", x.settle(0, 99), 0);
    Edge.due("AIR is held at 1", x.settle(0, 1), 0);
    Edge.due("AIR is held at 0", x.settle(63, 0), 63);
    IceAtTheMiddle y = Due.withLaw(STILL);
    Edge.due("by five ROUNDS", y.settle(31, 14), 0);
    Edge.due("by five ROUNDS from the pole", y.settle(32, 6), 63);
    Edge.due("it is a REST", y.settle(62, 8), 62);
    IceAtTheMiddle z = Due.withLaw(BY_AIR);
    for (int ice = 0; ice < 64; ice++) Edge.due("each is a REST", z.settle(ice, 10), ice);
    restsAtAnyLaw();
  }

  private static void restsAtAnyLaw() {
    long seed = 7;
    for (int i = 0; i < 300; i++) {
      StringBuilder law = new StringBuilder();
      for (int band = 0; band < 6; band++) {
        seed = seed * 6364136223846793005L + 1442695040888963407L;
        law.append('L').append(band).append(10 + (seed >>> 33) % 90);
      }
      law.append('R').append(1 + i % 9).append('F').append(10 + (seed >>> 40) % 60).append(i % 2 == 0 ? "" : "M1");
      IceAtTheMiddle x = Due.withLaw(law.toString());
      for (int ice = 0; ice < 64; ice++) {
        int settled = x.settle(ice, 0);
        Edge.due(law + " from " + ice, x.round(settled, 0), 100 * settled);
      }
    }
  }

  private static void settle() {
    Edge.promises(17, "To SETTLE: ICE; NONE.");
    IceAtTheMiddle x = Due.withLaw(BY_AIR);
    Edge.due("none", x.settle(63, 15), 0);
    Edge.due("all", x.settle(0, 9), 63);
    Edge.due("as it is", x.settle(17, 14), 17);

    Edge.promises(17, "OUTSIDE: ice, air.");
    outside(x::settle);
  }

  // ---- 18 to 21

  private static void curveOf(String law, int ice, int air, int last, int end, int... jumps) {
    IceAtTheMiddle x = Due.withLaw(law);
    String call = law + " from " + ice + " at " + air + " to " + last;
    Edge.due(call + ": jumps", x.jumps(ice, air, last), jumps.length);
    for (int i = 0; i < jumps.length; i++) Edge.due(call + ": jump " + i, x.jump(ice, air, last, i), jumps[i]);
    Edge.due(call + ": no more", x.jump(ice, air, last, jumps.length), NONE);
    Edge.due(call + ": end", x.curve(ice, air, last), end);
  }

  private static void curves() {
    Edge.says(18, "A CURVE from ICE at an AIR to another AIR: it SETTLES at the first, then at each one by 1 nearer to the last");
    curveOf(BY_AIR, 63, 0, 14, 63);
    curveOf(BY_AIR, 63, 0, 15, 0, 15);
    curveOf(BY_AIR, 0, 99, 10, 0);
    curveOf(BY_AIR, 0, 99, 9, 63, 9);
    curveOf(BY_AIR, 63, 14, 15, 0, 15);
    curveOf(BY_AIR, 0, 10, 9, 63, 9);
    curveOf(BY_AIR, 21, 12, 12, 21);
    curveOf("G1F99", 63, 0, 98, 63);
    curveOf("G1F99", 63, 0, 99, 0, 99);
    curveOf("G1F01", 0, 99, 1, 0);
    curveOf("G1F01", 0, 99, 0, 63, 0);
    // AIR is held at each: it would fall else.
    curveOf(FALLING, 0, 5, 9, 0);

    Edge.says(20, "It ends where it does not SETTLE.");
    for (int last = 0; last < 100; last++) {
      Edge.due("it SETTLES to " + last, Due.withLaw(BREATHING).curve(63, 50, last), last < 5 ? 63 : 0);
    }
  }

  private static void jumpsByTwo() {
    Edge.says(18, "a JUMP: an AIR at which the number of BANDS with ICE changes by two or more (at the first AIR, too).");
    curveOf(TWO, 0, 0, 0, 48, 0);
    curveOf(TWO, 1, 0, 0, 48);
    curveOf(TWO, 3, 0, 0, 48);
    curveOf(TWO, 48, 0, 0, 48);
    curveOf(TWO, 7, 0, 0, 48);
    curveOf(TWO, 15, 0, 0, 48, 0);
    curveOf(TWO, 63, 99, 0, 48, 99);
    curveOf(GRADUAL, 63, 0, 99, 0);
    curveOf(GRADUAL, 0, 99, 0, 63);
    curveOf(GRADUAL, 63, 9, 20, 56);
    curveOf(GRADUAL, 63, 10, 20, 56, 10);
    curveOf(GRADUAL, 0, 40, 0, 63);
    curveOf(GRADUAL, 0, 39, 0, 63, 39);
    curveOf(BY_AIR, 0, 0, 99, 0, 0, 15);
    curveOf(BY_AIR, 63, 99, 0, 63, 99, 9);
    curveOf(BY_AIR, 1, 15, 15, 0);
    curveOf(BY_AIR, 33, 15, 15, 0, 15);
  }

  private static void outsideOfLast(Call call) {
    Edge.due("last 100", call.of(0, 100), OUTSIDE);
    for (int far : Edge.FAR) Edge.due("last " + far, call.of(0, far), OUTSIDE);
  }

  private static void jumps() {
    Edge.promises(18, "How many JUMPS a CURVE has.");
    IceAtTheMiddle x = Due.withLaw(BY_AIR);
    Edge.due("none", x.jumps(0, 99, 10), 0);
    Edge.due("one", x.jumps(0, 99, 9), 1);
    Edge.due("two", x.jumps(0, 0, 99), 2);

    Edge.promises(18, "OUTSIDE: ice, air, last.");
    outside((ice, air) -> x.jumps(ice, air, 0));
    outsideOfLast((ice, last) -> x.jumps(ice, 0, last));
  }

  private static void jump() {
    Edge.promises(19, "The AIR of its i-th JUMP (from 0); NONE.");
    IceAtTheMiddle x = Due.withLaw(BY_AIR);
    Edge.due("the first, at AIR 0", x.jump(0, 0, 99, 0), 0);
    Edge.due("the second", x.jump(0, 0, 99, 1), 15);
    Edge.due("no third", x.jump(0, 0, 99, 2), NONE);
    Edge.due("none", x.jump(0, 99, 10, 0), NONE);
    for (int far : Edge.FAR) Edge.due("jump " + far, x.jump(0, 0, 99, far), NONE);

    Edge.promises(19, "OUTSIDE.");
    outside((ice, air) -> x.jump(ice, air, 0, 0));
    outsideOfLast((ice, last) -> x.jump(ice, 0, last, 0));
    Edge.due("and no such JUMP", x.jump(0, 0, 100, 7), OUTSIDE);
  }

  private static void curve() {
    Edge.promises(20, "ICE at the end of a CURVE; NONE: it ended ahead of that.");
    IceAtTheMiddle x = Due.withLaw(BY_AIR);
    Edge.due("from one side", x.curve(63, 0, 12), 63);
    Edge.due("from the other one", x.curve(0, 99, 12), 0);
    Edge.due("there and no farther", x.curve(21, 12, 12), 21);

    Edge.promises(20, "OUTSIDE.");
    outside((ice, air) -> x.curve(ice, air, 0));
    outsideOfLast((ice, last) -> x.curve(ice, 0, last));
  }

  private static void least() {
    Edge.promises(21, "The least AIR at which some REST has ICE at all BANDS but 0 (strip = true), at which WHITE is no REST; NONE: at none.");
    String[] laws = {BY_AIR, "M1", "G1F99", "G1F99M1", "G1F98M1", "", "F99", "G1F01", STILL};
    int[][] want = {{10, 15}, {0, NONE}, {NONE, 99}, {99, NONE}, {98, 99}, {NONE, 0}, {NONE, NONE}, {NONE, 1}, {8, 15}};
    for (int i = 0; i < laws.length; i++) {
      Edge.due("strip by " + laws[i], Due.withLaw(laws[i]).least(true), want[i][0]);
      Edge.due("no WHITE by " + laws[i], Due.withLaw(laws[i]).least(false), want[i][1]);
    }
  }
}
