/** Promise by promise: ordinary inputs, the edges that the document names, wrong inputs. All answers were worked out by hand. */
public final class PromisesTest {
  private static final int UNKNOWN = -1, OUTSIDE = -2, STATE = -3, FULL = -4, NONE = -9;
  private static final int[] WRONG = {-1, Integer.MIN_VALUE, Integer.MAX_VALUE};

  /** Each BAND has LIGHT of 20, or 10 under ICE; it is WHITE till AIR is 15, and bare till AIR is below 5. */
  private static final String BREATHING = "L020L120L220L320L420L520R5G1F25V1W1";
  /** As that, without AIR: a BAND freezes below 15 and melts at 18. */
  private static final String STILL = "L020L120L220L320L420L520R5F15M3";

  private static void due(int promise, String call, long got, long want) {
    Due.is("promise " + promise + ": " + call, got, want);
  }

  public static void main(String[] args) {
    newObject();
    write();
    wipe();
    lawFaults();
    storyFaults();
    faultsOneByOne();
    law();
    lawful();
    story();
    lived();
    at();
    warmth();
    round();
    after();
    run();
    till();
    rests();
    settle();
    curves();
    least();
    bed();
    forget();
    about();
    explains();
    chance();
    weight();
    odds();
    best();
    mover();
    next();
    once();
    times();
    order();
    gap();
    pole();
    elsewhere();
    slots();
    allOfEightAreKept();
    forgottenIsForgotten();
    count();
    twoObjects();
    Due.end("PromisesTest");
  }

  // ---- 1 to 9

  private static void newObject() {
    IceAtTheMiddle x = new IceAtTheMiddle();
    for (int i = 0; i < 12; i++) due(1, "lawful", x.lawful(i), 0);
    for (int i = 0; i < 3; i++) due(1, "count", x.count(i), 0);
    due(1, "count(3)", x.count(3), 4);
    for (int s = 0; s < 4; s++) {
      due(1, "at", x.at(s, 0), 0);
      due(1, "at", x.at(s, 99), 0);
      due(1, "weight", x.weight(s, 1), 1);
    }
    due(1, "again(0)", x.again(0), STATE);
    due(1, "again(1)", x.again(1), STATE);
    due(1, "warmth", x.warmth(0, 0, 99), 0);
    due(1, "round", x.round(63, 7), 7);
  }

  private static void write() {
    IceAtTheMiddle x = new IceAtTheMiddle();
    due(2, "none", x.write(0, 1), OUTSIDE);
    due(2, "nine", x.write(9, 1), OUTSIDE);
    for (int n : WRONG) due(2, "wrong", x.write(n, 1), OUTSIDE);
    due(2, "the lowest two", x.write(2, 0x4C58_5235L), 2);
    due(2, "they are R5", x.fault(false), NONE);
    due(2, "R5", x.law(), 1);
    due(2, "R", x.lawful(6), 5);
    due(2, "high bit", x.write(1, 0x80), 3);
    due(2, "a byte is no sign of a LAW", x.fault(false), 2);
    x.wipe();
    due(2, "eight", x.write(8, 0x4C3031324C313334L), 8);
    due(2, "two PARTS", x.law(), 2);
    due(2, "L0", x.lawful(0), 12);
    due(2, "L1", x.lawful(1), 34);
    due(2, "eight below 0", x.write(8, -1), 16);
    due(2, "bytes of 255", x.fault(false), 8);
    for (int i = 3; i <= 5; i++) due(2, "more", x.write(8, 0), 8 * i);
    due(2, "four", x.write(4, 0), 44);
    due(2, "five are too many", x.write(5, 0), FULL);
    due(2, "nothing came", x.count(0), 44);
    due(2, "four are not", x.write(4, 0), 48);
    due(2, "one is", x.write(1, 0), FULL);
    due(2, "OUTSIDE is first", x.write(9, 0), OUTSIDE);
    due(2, "nothing came", x.count(0), 48);
  }

  private static void wipe() {
    IceAtTheMiddle x = new IceAtTheMiddle();
    due(3, "empty", x.wipe(), 0);
    x.write(3, 0x58);
    due(3, "three", x.wipe(), 3);
    due(3, "gone", x.wipe(), 0);
    due(3, "an empty text is a LAW", x.fault(false), NONE);
    for (int i = 0; i < 6; i++) x.write(8, -1);
    due(3, "full", x.wipe(), 48);
    due(3, "room", x.write(1, 'R'), 1);
  }

  private static void fault(boolean story, String text, int want) {
    IceAtTheMiddle x = new IceAtTheMiddle();
    Due.put(x, text);
    due(4, (story ? "story " : "law ") + text, x.fault(story), want);
    due(4, "it stays", x.count(0), text.length());
    due(story ? 7 : 5, "STATE by a FAULT: " + text, (story ? x.story(0) : x.law()) == STATE ? 1 : 0, want == NONE ? 0 : 1);
  }

  private static void lawFaults() {
    String lights = "L000L100L200L300L400L500";
    String whole = "R5G4F10M2V1W3" + lights;
    String[] good = {"", "L000", "L599", "R0", "G9", "F00", "F99", "M9", "V9", "W9", "W9R1L300F10L100", lights, whole};
    for (String t : good) fault(false, t, NONE);
    String[] cut = {"L", "L0", "L00", "R", "G", "F", "F1", "M", "V", "W", "R5L", "L000L", "L000L1", "L000L12", "R5F2"};
    for (String t : cut) fault(false, t, t.length());
    String[] last = {"X", "l", "r", " ", "0", ";", ":", "L6", "L9", "L/", "L:", "LL", "L0a", "L0/", "L0:", "L00x", "R;", "Rx",
        "R10", "F1x", "F123", "R5R", "G1R5G", "F12F", "M1M", "V1V", "W1W", "L000L0", "L500L400L5", lights + "L", whole + "L",
        whole + "R", whole + "0", "" + (char) 0, "" + (char) 255, "R" + (char) 176, "L" + (char) 1, "R5" + (char) 204};
    for (String t : last) fault(false, t, t.length() - 1);
    fault(false, "R5R5", 2);
    fault(false, "XR5", 0);
    fault(false, "L000L000L1", 5);
    fault(false, whole + "L000", 37);
  }

  private static void storyFaults() {
    String[] good = {"00:", "99:", "00:0", "00:5", "50:012345", "00:;01:", "09:;10:", "18:;19:5", "98:;99:", "00:0;10:1;20:2;30:"};
    for (String t : good) fault(true, t, NONE);
    String[] cut = {"", "0", "9", "10", "10:;", "10:;1", "10:;11", "19:;2", "18:;1", "98:;", "98:;9", "98:;99", "00:012345;",
        "00:012345;10:012345;20:012345;30:012345;40:0123;"};
    for (String t : cut) fault(true, t, t.length());
    String[] last = {"x", ":", ";", " ", "L", "0:", "0;", "0x", "00;", "000", "00x", "00::", "00:6", "00:9", "00:x", "00:/",
        "00:00", "00:10", "00:54", "00:0123455", "00:;;", "00:;:", "10:;0", "19:;1", "99:;", "99:012345;", "10:;10", "10:;11;",
        "18:;18", "98:;98", "29:;3:", "" + (char) 0, "0" + (char) 176, "00:" + (char) 176, "00:0" + (char) 187};
    for (String t : last) fault(true, t, t.length() - 1);
    fault(true, "10:;09:", 4);
    fault(true, "99:;99:", 3);
    fault(true, "R5", 0);
  }

  /** What an earlier text left unfinished is nothing to the next one. */
  private static void faultsOneByOne() {
    IceAtTheMiddle x = new IceAtTheMiddle();
    String[] laws = {"L", "", "R", "R5", "L0", "L012", "F1", "", "L6", "L512", "R5R", "R5"};
    for (int i = 0; i < laws.length; i++) {
      Due.text(x, laws[i]);
      int want = i % 2 == 1 ? NONE : laws[i].equals("L6") ? 1 : laws[i].equals("R5R") ? 2 : laws[i].length();
      due(4, "then " + laws[i], x.fault(false), want);
    }
    String[] stories = {"50:5;5", "50:5", "99:;", "00:", "5", "00:0", "99:5x", "01:0", "", "98:5;99:"};
    for (int i = 0; i < stories.length; i++) {
      Due.text(x, stories[i]);
      int want = i % 2 == 1 ? NONE : stories[i].equals("99:;") ? 3 : stories[i].equals("99:5x") ? 4 : stories[i].length();
      due(4, "then " + stories[i], x.fault(true), want);
    }
    due(7, "the last one", x.story(0), 2);
    due(7, "nothing of those ahead", x.at(0, 0), 0);
    due(7, "nothing of those ahead", x.at(0, 97), 0);
    due(7, "its own", x.at(0, 98), 32);
  }

  private static void law() {
    IceAtTheMiddle x = Due.withLaw(BREATHING);
    due(5, "eleven PARTS", x.law(), 11);
    due(5, "the text stays", x.count(0), 35);
    due(5, "F", x.lawful(8), 25);
    Due.text(x, "F30F");
    due(5, "a FAULT", x.law(), STATE);
    due(5, "as it was", x.lawful(8), 25);
    Due.text(x, "M7");
    due(5, "one PART", x.law(), 1);
    due(5, "M", x.lawful(9), 7);
    due(5, "else 0", x.lawful(8), 0);
    due(5, "else 0", x.lawful(0), 0);
    x.wipe();
    due(5, "none", x.law(), 0);
    due(5, "dark again", x.lawful(9), 0);
    Due.tell(x, 1, "00:3");
    x.bed(0, 1, 0, 0, 0, 0);
    Due.text(x, "R5");
    x.law();
    due(5, "STORIES stay", x.at(1, 50), 8);
    due(5, "BEDS stay", x.count(1), 1);
  }

  private static void lawful() {
    IceAtTheMiddle x = Due.withLaw("W9V8M7F65G4R3L512L421L330L249L158L067");
    int[] want = {67, 58, 49, 30, 21, 12, 3, 4, 65, 7, 8, 9};
    for (int i = 0; i < 12; i++) due(6, "lawful(" + i + ")", x.lawful(i), want[i]);
    due(6, "twelve", x.law(), 12);
    due(6, "12", x.lawful(12), OUTSIDE);
    for (int w : WRONG) due(6, "wrong", x.lawful(w), OUTSIDE);
  }

  private static void story() {
    IceAtTheMiddle x = new IceAtTheMiddle();
    Due.text(x, "10:012345;40:45;45:");
    due(7, "three ENTRIES", x.story(3), 3);
    due(7, "the text stays", x.count(0), 19);
    int[][] want = {{0, 0}, {9, 0}, {10, 63}, {39, 63}, {40, 48}, {44, 48}, {45, 0}, {99, 0}};
    for (int[] w : want) due(7, "at " + w[0], x.at(3, w[0]), w[1]);
    due(7, "another one has none", x.at(2, 20), 0);
    due(7, "no such STORY", x.story(4), UNKNOWN);
    for (int s : WRONG) due(7, "no such STORY", x.story(s), UNKNOWN);
    Due.text(x, "10:;");
    due(7, "UNKNOWN is first", x.story(4), UNKNOWN);
    due(7, "a FAULT", x.story(3), STATE);
    due(7, "as it was", x.at(3, 20), 63);
    Due.text(x, "50:0");
    due(7, "one", x.story(3), 1);
    due(7, "all anew", x.at(3, 20), 0);
    due(7, "from 50 on", x.at(3, 99), 1);
    Due.text(x, "99:5");
    x.story(0);
    due(7, "98", x.at(0, 98), 0);
    due(7, "99", x.at(0, 99), 32);
  }

  private static void lived() {
    IceAtTheMiddle x = Due.withLaw(BREATHING);
    due(8, "16 of each 20", x.lived(2, 63, 0), 80);
    int[][] want = {{0, 63}, {15, 63}, {16, 0}, {19, 0}, {20, 63}, {95, 63}, {96, 0}, {99, 0}};
    for (int[] w : want) due(8, "at " + w[0], x.at(2, w[0]), w[1]);
    x.wipe();
    x.law();
    due(8, "as THE LAW was", x.at(2, 20), 63);
    due(8, "by the new one", x.lived(3, 5, 9), 0);
    due(8, "ROUND 0", x.at(3, 0), 5);
    due(8, "ROUND 1", x.at(3, 1), 0);
    due(8, "no such STORY", x.lived(4, 64, 100), UNKNOWN);
    for (int w : WRONG) {
      due(8, "no such STORY", x.lived(w, 0, 0), UNKNOWN);
      due(8, "no ICE", x.lived(2, w, 0), OUTSIDE);
      due(8, "no AIR", x.lived(2, 0, w), OUTSIDE);
    }
    due(8, "64", x.lived(2, 64, 0), OUTSIDE);
    due(8, "100", x.lived(2, 0, 100), OUTSIDE);
    due(8, "nothing changed", x.at(2, 20), 63);
  }

  private static void at() {
    IceAtTheMiddle x = new IceAtTheMiddle();
    Due.tell(x, 0, "00:0;99:5");
    due(9, "0", x.at(0, 0), 1);
    due(9, "98", x.at(0, 98), 1);
    due(9, "99", x.at(0, 99), 32);
    due(9, "100", x.at(0, 100), OUTSIDE);
    due(9, "UNKNOWN is first", x.at(4, 100), UNKNOWN);
    for (int w : WRONG) {
      due(9, "no such STORY", x.at(w, 0), UNKNOWN);
      due(9, "no ROUND", x.at(0, w), OUTSIDE);
    }
  }

  // ---- 10 to 21

  private static void outsideOfIceAndAir(int promise, IceAtTheMiddle x, Call call) {
    int[][] wrong = {{64, 0}, {0, 100}, {-1, 0}, {0, -1}, {Integer.MAX_VALUE, 0}, {0, Integer.MIN_VALUE}};
    for (int[] w : wrong) due(promise, "OUTSIDE " + w[0] + " " + w[1], call.of(x, w[0], w[1]), OUTSIDE);
  }

  private interface Call {
    int of(IceAtTheMiddle x, int ice, int air);
  }

  private static void warmth() {
    IceAtTheMiddle x = Due.withLaw(STILL + "G2");
    due(10, "bare", x.warmth(0, 0, 0), 800);
    due(10, "beside the middle is the middle", x.warmth(0, 1, 0), 500);
    due(10, "beside the pole is the pole", x.warmth(5, 32, 0), 500);
    due(10, "one beside it", x.warmth(1, 1, 0), 700);
    due(10, "the other", x.warmth(1, 4, 0), 700);
    due(10, "not one farther", x.warmth(1, 8, 0), 800);
    due(10, "itself", x.warmth(1, 2, 0), 600);
    due(10, "white", x.warmth(3, 63, 0), 400);
    due(10, "by AIR", x.warmth(3, 63, 7), 960);
    due(10, "by all AIR", x.warmth(3, 63, 99), 8320);
    due(10, "no such BAND", x.warmth(6, 64, 100), UNKNOWN);
    for (int w : WRONG) due(10, "no such BAND", x.warmth(w, 0, 0), UNKNOWN);
    outsideOfIceAndAir(10, x, (y, ice, air) -> y.warmth(0, ice, air));
    IceAtTheMiddle falling = Due.withLaw("L099L150L240L330L420L510R9");
    due(10, "falling 0", falling.warmth(0, 0, 0), 3 * 990 + 500);
    due(10, "falling 2", falling.warmth(2, 4, 0), 80 + 500 + 300);
    due(10, "falling 5", falling.warmth(5, 0, 0), 300 + 200);
  }

  private static void round() {
    IceAtTheMiddle x = Due.withLaw(STILL);
    due(11, "at F it does not freeze", x.round(5, 0), 500);
    due(11, "below it does", x.round(1, 5), 105);
    due(11, "between it is as it was", x.round(2, 5), 205);
    due(11, "bare stays bare", x.round(0, 99), 99);
    IceAtTheMiddle y = Due.withLaw("L020L120L220L320L420L520R5F15");
    due(11, "at F and M it melts", y.round(2, 5), 5);
    due(11, "at 720 it melts", Due.withLaw("L026L120L226R5F15M3").round(2, 0), 5600);
    due(11, "at 718 it does not", Due.withLaw("L026L199L226R9F15M3").round(2, 0), 5800);
    IceAtTheMiddle z = Due.withLaw("V7W2");
    due(11, "mountains breathe", z.round(63, 50), 57);
    due(11, "bare BANDS take", z.round(0, 50), 45);
    due(11, "one takes", z.round(62, 0), 5);
    due(11, "not below 0", z.round(0, 3), 0);
    due(11, "not above 99", z.round(63, 95), 99);
    due(11, "both, then the bound", z.round(0, 99), 94);
    IceAtTheMiddle cold = Due.withLaw("F01");
    due(11, "all freeze", cold.round(0, 12), 6312);
    outsideOfIceAndAir(11, x, IceAtTheMiddle::round);
  }

  private static void after() {
    IceAtTheMiddle x = Due.withLaw(BREATHING);
    int[][] want = {{63, 0, 0, 6300}, {63, 0, 1, 6301}, {63, 0, 15, 6315}, {63, 0, 16, 16}, {63, 0, 19, 1}, {63, 0, 20, 6300},
        {63, 0, 99999, 1}, {63, 0, 100000, 6300}, {0, 99, 0, 99}, {0, 99, 19, 4}, {0, 99, 20, 6300}, {0, 99, 25, 6305},
        {0, 99, 39, 1}, {0, 99, 40, 6300}, {0, 99, 100000, 6300}};
    for (int[] w : want) due(12, w[0] + " " + w[1] + " " + w[2], x.after(w[0], w[1], w[2]), w[3]);
    due(12, "19 ahead of the RING", x.after(0, 94, 100000), 6301);
    IceAtTheMiddle falls = Due.withLaw("V7W2");
    due(12, "12", falls.after(63, 50, 12), 2);
    due(12, "13", falls.after(63, 50, 13), 0);
    due(12, "a RING of one", falls.after(63, 50, 100000), 0);
    due(12, "100001", x.after(0, 0, 100001), OUTSIDE);
    for (int w : WRONG) due(12, "wrong", x.after(0, 0, w), OUTSIDE);
    outsideOfIceAndAir(12, x, (y, ice, air) -> y.after(ice, air, 1));
  }

  private static void run() {
    IceAtTheMiddle x = Due.withLaw(BREATHING);
    int[][] want = {{63, 0, 0, 20, 16, 0, 16}, {0, 16, 0, 20, 16, 0, 16}, {0, 99, 20, 20, 16, 0, 16}};
    for (int[] w : want) {
      for (int i = 0; i < 5; i++) due(13, w[0] + " " + w[1] + " " + i, x.run(w[0], w[1], i), w[2 + i]);
    }
    IceAtTheMiddle y = Due.withLaw("V7W2");
    int[] falls = {13, 1, 0, 0, 0};
    for (int i = 0; i < 5; i++) due(13, "it falls " + i, y.run(63, 50, i), falls[i]);
    IceAtTheMiddle cold = Due.withLaw("F99V3");
    int[] rises = {33, 1, 1, 99, 99};
    for (int i = 0; i < 5; i++) due(13, "it rises " + i, cold.run(63, 0, i), rises[i]);
    due(13, "5", x.run(0, 0, 5), OUTSIDE);
    for (int w : WRONG) due(13, "wrong", x.run(0, 0, w), OUTSIDE);
    outsideOfIceAndAir(13, x, (z, ice, air) -> z.run(ice, air, 0));
  }

  private static void till() {
    IceAtTheMiddle x = Due.withLaw(BREATHING);
    due(14, "white now", x.till(63, 3, true), 0);
    due(14, "bare now", x.till(0, 3, false), 0);
    due(14, "one BAND less is not WHITE", x.till(62, 0, false), 0);
    due(14, "till it melts", x.till(63, 0, false), 16);
    due(14, "till it freezes", x.till(0, 16, true), 4);
    due(14, "from far", x.till(0, 99, true), 20);
    due(14, "never white", Due.withLaw("").till(0, 0, true), NONE);
    due(14, "never not", Due.withLaw("F99").till(63, 0, false), NONE);
    outsideOfIceAndAir(14, x, (y, ice, air) -> y.till(ice, air, true));
    outsideOfIceAndAir(14, x, (y, ice, air) -> y.till(ice, air, false));
  }

  private static void rests() {
    IceAtTheMiddle any = Due.withLaw("M5");
    due(15, "each stays", any.rests(0), 64);
    due(15, "at 99 too", any.rests(99), 64);
    for (int i = 0; i < 64; i++) due(16, "each", any.rest(50, i), i);
    due(16, "64", any.rest(50, 64), NONE);
    IceAtTheMiddle cold = Due.withLaw("F99V5");
    due(15, "AIR is held", cold.rests(0), 1);
    due(16, "white", cold.rest(0, 0), 63);
    IceAtTheMiddle x = Due.withLaw(BREATHING);
    due(15, "white alone", x.rests(4), 1);
    due(15, "bare alone", x.rests(15), 1);
    due(16, "white", x.rest(4, 0), 63);
    due(16, "bare", x.rest(15, 0), 0);
    // At AIR 14 only BANDS whose neighbours all have ICE keep it: bare or WHITE.
    due(15, "two", x.rests(14), 2);
    due(16, "the first", x.rest(14, 0), 0);
    due(16, "the second", x.rest(14, 1), 63);
    due(16, "no third", x.rest(14, 2), NONE);
    for (int w : WRONG) {
      due(15, "no AIR", x.rests(w), OUTSIDE);
      due(16, "no AIR", x.rest(w, 0), OUTSIDE);
      due(16, "no such one", x.rest(14, w), NONE);
    }
    due(15, "100", x.rests(100), OUTSIDE);
    due(16, "100", x.rest(100, 99), OUTSIDE);
  }

  private static void settle() {
    IceAtTheMiddle x = Due.withLaw(BREATHING);
    due(17, "one alone melts", x.settle(2, 10), 0);
    due(17, "two keep one another", x.settle(6, 10), 6);
    due(17, "the middle keeps itself", x.settle(1, 10), 1);
    due(17, "white at 14", x.settle(63, 14), 63);
    due(17, "white at 15", x.settle(63, 15), 0);
    due(17, "bare at 5", x.settle(0, 5), 0);
    due(17, "bare at 4", x.settle(0, 4), 63);
    // At AIR 14 ICE goes from its edge on, a BAND a ROUND: 31, 15, 7, 3, 1, 0.
    due(17, "by many ROUNDS", x.settle(31, 14), 0);
    outsideOfIceAndAir(17, x, IceAtTheMiddle::settle);
  }

  private static void curves() {
    IceAtTheMiddle x = Due.withLaw(BREATHING);
    int[][] want = {
        // ice, air, last, jumps, the first one, the end
        {63, 0, 99, 1, 15, 0}, {0, 99, 0, 1, 4, 63}, {63, 0, 14, 0, NONE, 63}, {63, 14, 15, 1, 15, 0}, {63, 15, 15, 1, 15, 0},
        {63, 14, 14, 0, NONE, 63}, {0, 5, 4, 1, 4, 63}, {0, 4, 99, 2, 4, 0}, {2, 10, 10, 0, NONE, 0}, {10, 10, 10, 1, 10, 0},
        {31, 14, 20, 1, 14, 0}, {62, 63, 62, 1, 63, 0}};
    for (int[] w : want) {
      String with = w[0] + " " + w[1] + " " + w[2];
      due(18, with, x.jumps(w[0], w[1], w[2]), w[3]);
      due(19, with, x.jump(w[0], w[1], w[2], 0), w[4]);
      due(19, with, x.jump(w[0], w[1], w[2], w[3]), NONE);
      due(20, with, x.curve(w[0], w[1], w[2]), w[5]);
    }
    due(19, "the second", x.jump(0, 4, 99, 1), 15);
    due(20, "at once", Due.withLaw(BREATHING).curve(0, 99, 0), 63);
    due(19, "at once", Due.withLaw(BREATHING).jump(63, 0, 99, 0), 15);
    for (int w : WRONG) {
      due(18, "last", x.jumps(0, 0, w), OUTSIDE);
      due(19, "last", x.jump(0, 0, w, 0), OUTSIDE);
      due(19, "no such one", x.jump(63, 0, 99, w), NONE);
      due(20, "last", x.curve(0, 0, w), OUTSIDE);
    }
    due(18, "100", x.jumps(0, 0, 100), OUTSIDE);
    due(19, "100", x.jump(0, 0, 100, 0), OUTSIDE);
    due(20, "100", x.curve(0, 0, 100), OUTSIDE);
    outsideOfIceAndAir(18, x, (y, ice, air) -> y.jumps(ice, air, 0));
    outsideOfIceAndAir(19, x, (y, ice, air) -> y.jump(ice, air, 0, 0));
    outsideOfIceAndAir(20, x, (y, ice, air) -> y.curve(ice, air, 0));
  }

  private static void least() {
    IceAtTheMiddle x = Due.withLaw(BREATHING);
    due(21, "strip", x.least(true), 8);
    due(21, "white", x.least(false), 15);
    due(21, "no strip by dark", Due.withLaw("").least(true), NONE);
    due(21, "dark", Due.withLaw("").least(false), 0);
    due(21, "no strip by cold", Due.withLaw("F99").least(true), NONE);
    due(21, "cold", Due.withLaw("F99").least(false), NONE);
    due(21, "at the last AIR", Due.withLaw("G1F99").least(false), 99);
    due(21, "strip at once", Due.withLaw("M5").least(true), 0);
  }

  // ---- 22 to 31

  private static void bed() {
    IceAtTheMiddle x = new IceAtTheMiddle();
    due(22, "land and more", x.bed(4, 16, 100, 0, 0, 11), UNKNOWN);
    due(22, "needle and more", x.bed(0, 16, 100, 0, 6, 11), UNKNOWN);
    for (int w : WRONG) {
      due(22, "land", x.bed(w, 0, 0, 0, 0, 0), UNKNOWN);
      due(22, "signs", x.bed(0, w, 0, 0, 0, 0), OUTSIDE);
      due(22, "old", x.bed(0, 0, w, 99, 0, 0), OUTSIDE);
      due(22, "young", x.bed(0, 0, 0, w, 0, 0), OUTSIDE);
      due(22, "needle", x.bed(0, 0, 0, 0, w, 0), UNKNOWN);
      due(22, "first", x.bed(0, 0, 0, 0, 0, w), OUTSIDE);
    }
    due(22, "signs 16", x.bed(0, 16, 0, 0, 0, 0), OUTSIDE);
    due(22, "young 100", x.bed(0, 0, 0, 100, 0, 0), OUTSIDE);
    due(22, "young less", x.bed(0, 0, 9, 8, 0, 0), OUTSIDE);
    due(22, "first 11", x.bed(0, 0, 0, 0, 0, 11), OUTSIDE);
    due(22, "nothing came", x.count(1), 0);
    due(22, "all least", x.bed(0, 0, 0, 0, 0, 0), 0);
    due(22, "all greatest", x.bed(3, 15, 99, 99, 5, 10), 1);
    for (int i = 2; i < 8; i++) due(22, "more", x.bed(i % 4, i, i, 9 + i, i % 6, i), i);
    due(22, "eight", x.bed(0, 0, 0, 0, 0, 0), FULL);
    due(22, "OUTSIDE is first", x.bed(0, 0, 0, 0, 0, 11), OUTSIDE);
    due(22, "UNKNOWN is first", x.bed(4, 0, 0, 0, 0, 0), UNKNOWN);
    due(22, "eight are there", x.count(1), 8);
    due(22, "the last one", x.about(7, 3), 16);
  }

  private static void forget() {
    IceAtTheMiddle x = new IceAtTheMiddle();
    due(23, "none", x.forget(), STATE);
    x.bed(1, 1, 1, 1, 1, 1);
    x.bed(2, 2, 2, 2, 2, 2);
    due(23, "the last one", x.forget(), 1);
    due(23, "it is gone", x.about(1, 0), UNKNOWN);
    due(23, "the first is there", x.about(0, 0), 1);
    due(23, "its number is free", x.bed(3, 3, 3, 3, 3, 3), 1);
    due(23, "another one", x.about(1, 5), 3);
    x.forget();
    due(23, "all", x.forget(), 0);
    due(23, "none", x.forget(), STATE);
  }

  private static void about() {
    IceAtTheMiddle x = new IceAtTheMiddle();
    x.bed(1, 11, 20, 30, 4, 5);
    int[] want = {1, 11, 20, 30, 4, 5, 5, 1};
    for (int i = 0; i < 8; i++) due(24, "about " + i, x.about(0, i), want[i]);
    due(24, "8", x.about(0, 8), OUTSIDE);
    due(24, "UNKNOWN is first", x.about(1, 8), UNKNOWN);
    for (int w : WRONG) {
      due(24, "no such BED", x.about(w, 0), UNKNOWN);
      due(24, "what", x.about(0, w), OUTSIDE);
    }
    int[] slides = {2, 2, 1, 1, 1, 1, 0, 0, 6, 6, 5, 5, 5, 5, 4, 4};
    for (int signs = 0; signs < 16; signs++) {
      x.forget();
      x.bed(0, signs, 0, 0, 0, 0);
      due(24, "slide of " + signs, x.about(0, 6), slides[signs]);
      due(24, "icy " + signs, x.about(0, 7), signs % 4 == 0 ? 0 : 1);
    }
  }

  /** STORY 0 has ICE at the middle in ROUNDS 10 to 19, at the pole in 20 to 29. */
  private static IceAtTheMiddle withStory() {
    IceAtTheMiddle x = new IceAtTheMiddle();
    Due.tell(x, 0, "10:0;20:5;30:");
    return x;
  }

  private static void explains() {
    int[][] want = {{0, 9, 0}, {0, 10, 2}, {10, 10, 2}, {19, 19, 2}, {19, 40, 2}, {20, 40, 1}, {29, 40, 1}, {30, 99, 0}, {0, 99, 2}};
    for (int[] w : want) {
      for (int signs = 1; signs < 4; signs++) {
        IceAtTheMiddle x = withStory();
        x.bed(0, signs, w[0], w[1], 0, 3);
        due(25, w[0] + " to " + w[1], x.explains(0, 0), w[2]);
        due(25, "a STORY without ICE", x.explains(1, 0), 0);
      }
    }
    IceAtTheMiddle x = withStory();
    x.bed(0, 12, 0, 99, 0, 3);
    due(25, "not ICY", x.explains(0, 0), STATE);
    due(25, "UNKNOWN is first", x.explains(4, 0), UNKNOWN);
    due(25, "no such BED", x.explains(0, 1), UNKNOWN);
    for (int w : WRONG) {
      due(25, "no such STORY", x.explains(w, 0), UNKNOWN);
      due(25, "no such BED", x.explains(0, w), UNKNOWN);
    }
  }

  private static void chance() {
    int[][] want = {
        // signs, old, young, first, above, below
        {9, 10, 12, 3, 1, 1}, {9, 20, 25, 3, 22, 25}, {9, 30, 40, 3, 3, 5}, {7, 30, 40, 3, 0, 1}, {6, 20, 40, 10, 0, 1},
        {1, 20, 40, 10, 1, 5}, {1, 20, 40, 0, 1, 1}, {2, 20, 40, 1, 91, 100}, {1, 0, 9, 5, 1, 5}, {0, 10, 19, 7, 13, 20},
        {0, 10, 20, 7, 1, 1}, {0, 9, 19, 7, 1, 1}, {8, 12, 12, 10, 1, 2}, {4, 12, 12, 0, 1, 1}, {12, 40, 50, 10, 1, 1},
        {0, 20, 25, 10, 1, 1}};
    for (int[] w : want) {
      IceAtTheMiddle x = withStory();
      x.bed(0, w[0], w[1], w[2], 0, w[3]);
      String with = w[0] + " " + w[1] + " " + w[2] + " " + w[3];
      due(26, with + " above", x.chance(0, 0, true), w[4]);
      due(26, with + " below", x.chance(0, 0, false), w[5]);
    }
    IceAtTheMiddle x = withStory();
    x.bed(0, 1, 0, 0, 0, 0);
    for (boolean upper : new boolean[] {true, false}) {
      due(26, "no such STORY", x.chance(4, 0, upper), UNKNOWN);
      due(26, "no such BED", x.chance(0, 1, upper), UNKNOWN);
      for (int w : WRONG) due(26, "UNKNOWN", x.chance(w, w, upper), UNKNOWN);
    }
  }

  private static void weight() {
    IceAtTheMiddle x = new IceAtTheMiddle();
    due(27, "1 at first", x.weight(3, 9), 1);
    due(27, "9", x.weight(3, 0), 9);
    due(27, "0", x.weight(3, 5), 0);
    due(27, "10", x.weight(3, 10), OUTSIDE);
    due(27, "UNKNOWN is first", x.weight(4, 10), UNKNOWN);
    for (int w : WRONG) {
      due(27, "no such STORY", x.weight(w, 0), UNKNOWN);
      due(27, "no WEIGHT", x.weight(3, w), OUTSIDE);
    }
    due(27, "as it was", x.weight(3, 1), 5);
    due(27, "another one", x.weight(2, 1), 1);
  }

  private static void odds(IceAtTheMiddle x, int story, long above, long below) {
    due(28, "odds of " + story, x.odds(story, true), above);
    due(28, "odds of " + story + " below", x.odds(story, false), below);
  }

  private static void odds() {
    IceAtTheMiddle x = withStory();
    odds(x, 0, 1, 4);
    x.bed(0, 1, 10, 12, 0, 10);
    odds(x, 0, 5, 8);
    odds(x, 1, 1, 8);
    x.weight(1, 5);
    odds(x, 1, 5, 12);
    x.weight(0, 0);
    odds(x, 0, 0, 1);
    odds(x, 2, 1, 7);
    x.bed(0, 7, 10, 12, 0, 10);
    odds(x, 1, STATE, STATE);
    x.weight(0, 1);
    odds(x, 0, 1, 1);
    odds(x, 3, 0, 1);
    for (int s = 0; s < 4; s++) x.weight(s, 0);
    odds(x, 0, STATE, STATE);
    odds(x, 4, UNKNOWN, UNKNOWN);
    for (int w : WRONG) odds(x, w, UNKNOWN, UNKNOWN);
    IceAtTheMiddle y = new IceAtTheMiddle();
    Due.tell(y, 0, "00:0");
    Due.tell(y, 1, "00:5");
    for (int i = 0; i < 8; i++) y.bed(0, 2, 0, 99, 0, 1);
    y.weight(2, 0);
    y.weight(3, 0);
    odds(y, 0, 10000000000000000L, 14702525276151521L);
    odds(y, 1, 4702525276151521L, 14702525276151521L);
  }

  private static void best() {
    IceAtTheMiddle x = withStory();
    due(29, "of like ones the least", x.best(), 0);
    x.weight(2, 2);
    due(29, "by WEIGHT", x.best(), 2);
    x.weight(3, 2);
    due(29, "of like ones", x.best(), 2);
    x.weight(1, 3);
    due(29, "the second", x.best(), 1);
    x.weight(1, 1);
    x.bed(0, 1, 10, 12, 0, 10);
    due(29, "by a BED", x.best(), 0);
    x.weight(0, 0);
    due(29, "without it", x.best(), 2);
    x.bed(0, 7, 10, 12, 0, 10);
    due(29, "nothing is left", x.best(), STATE);
    x.weight(0, 1);
    due(29, "one is left", x.best(), 0);
  }

  private static void mover() {
    IceAtTheMiddle x = new IceAtTheMiddle();
    due(30, "no BEDS", x.mover(), NONE);
    Due.tell(x, 0, "00:0");
    for (int s = 1; s < 4; s++) Due.tell(x, s, "00:5");
    x.bed(0, 2, 0, 10, 0, 10);
    due(30, "the one BED", x.mover(), 0);
    x.bed(0, 2, 0, 10, 5, 10);
    // 250000 with both, 32258 without the first, 769230 without the second.
    due(30, "more by the second", x.mover(), 1);
    x.weight(0, 9);
    // 750000 with both, 230769 without the first, 967741 without the second.
    due(30, "less by the first", x.mover(), 0);
    x.bed(1, 2, 0, 10, 0, 10);
    due(30, "of like ones the least", x.mover(), 0);
    IceAtTheMiddle y = new IceAtTheMiddle();
    for (int i = 0; i < 3; i++) y.bed(0, 1, 0, 0, 0, 0);
    due(30, "none moves it", y.mover(), 0);
    lastFigures();
    for (int s = 0; s < 4; s++) y.weight(s, 0);
    due(30, "nothing is left", y.mover(), STATE);
  }

  private static IceAtTheMiddle withThreeStories(int[] weights, int[][] beds) {
    IceAtTheMiddle x = new IceAtTheMiddle();
    for (int s = 0; s < 3; s++) Due.tell(x, s, "00:" + s);
    for (int s = 0; s < 4; s++) x.weight(s, weights[s]);
    for (int[] b : beds) x.bed(0, b[0], 0, 99, b[1], b[2]);
    return x;
  }

  private static void lastFigures() {
    // 500000 goes to 540540, and to 459459, which is one millionth farther by the cut alone.
    due(30, "cut", withThreeStories(new int[] {2, 2, 0, 0}, new int[][] {{11, 1, 3}, {11, 0, 3}}).mover(), 1);
    // By 31711, 9324, 84666, 84668 millionths.
    int[][] beds = {{10, 0, 8}, {11, 2, 3}, {11, 1, 6}, {5, 2, 8}};
    due(30, "the sixth figure", withThreeStories(new int[] {3, 6, 2, 8}, beds).mover(), 3);
    // By 39964, 51675, 51675 millionths; a seventh figure would tell the last two apart.
    int[][] like = {{10, 1, 2}, {13, 1, 0}, {10, 2, 8}};
    due(30, "no seventh figure", withThreeStories(new int[] {5, 1, 3, 9}, like).mover(), 1);
    // STORY 0 alone is left: 1000000, 833333 without the first BED, 500000 without the second.
    IceAtTheMiddle x = new IceAtTheMiddle();
    Due.tell(x, 0, "00:01");
    Due.tell(x, 1, "00:1");
    Due.tell(x, 2, "00:0");
    x.weight(0, 5);
    x.weight(2, 5);
    x.weight(3, 0);
    x.bed(0, 6, 0, 9, 0, 10);
    x.bed(0, 6, 0, 9, 1, 10);
    due(30, "from all", x.mover(), 1);
  }

  private static void next() {
    IceAtTheMiddle x = new IceAtTheMiddle();
    due(31, "all are like", x.next(), 0);
    Due.tell(x, 0, "30:2;50:");
    due(31, "a quarter", x.next(), 23);
    Due.tell(x, 1, "40:2;60:");
    due(31, "half", x.next(), 24);
    x.weight(1, 3);
    due(31, "half by WEIGHTS: 3 of 6", x.next(), 25);
    x.weight(0, 9);
    due(31, "9 of 14 is nearer than 12 and 3", x.next(), 23);
    x.weight(0, 1);
    x.weight(1, 1);
    x.bed(0, 7, 0, 99, 2, 10);
    due(31, "STORIES 2 and 3 are gone", x.next(), 23);
    IceAtTheMiddle y = new IceAtTheMiddle();
    Due.tell(y, 3, "35:2;39:");
    due(31, "not by 10", y.next(), 0);
    for (int tenth = 1; tenth < 10; tenth++) {
      Due.tell(y, 3, tenth + "0:2;" + tenth + "1:");
      due(31, "in one ROUND", y.next(), 20 + tenth);
    }
    Due.tell(y, 2, "90:5");
    Due.tell(y, 1, "90:45");
    due(31, "the last one", y.next(), 59);
    for (int s = 0; s < 4; s++) Due.tell(y, s, "00:012345");
    due(31, "all have ICE", y.next(), 0);
    for (int s = 0; s < 4; s++) y.weight(s, 0);
    due(31, "nothing is left", y.next(), STATE);
  }

  // ---- 32 to 38

  private static IceAtTheMiddle withDates(int... dates) {
    IceAtTheMiddle x = new IceAtTheMiddle();
    for (int i = 0; i + 1 < dates.length; i += 2) x.bed(0, 1 + i / 2 % 3, dates[i], dates[i + 1], 0, 0);
    return x;
  }

  private static void once() {
    due(32, "no BED", withDates().once(), NONE);
    due(32, "one", withDates(7, 9).once(), 7);
    due(32, "they meet", withDates(20, 30, 10, 20).once(), 20);
    due(32, "they do not", withDates(21, 30, 10, 20).once(), NONE);
    due(32, "at 0", withDates(0, 0, 0, 99).once(), 0);
    due(32, "at 99", withDates(99, 99, 0, 99).once(), 99);
    IceAtTheMiddle x = new IceAtTheMiddle();
    x.bed(0, 12, 5, 6, 0, 0);
    due(32, "none is ICY", x.once(), NONE);
    x.bed(0, 1, 50, 60, 0, 0);
    due(32, "ICY ones alone", x.once(), 50);
    x.bed(3, 2, 55, 99, 0, 0);
    due(32, "of all LANDS", x.once(), 55);
  }

  private static void times(IceAtTheMiddle x, int... want) {
    due(33, "how many", x.times(), want.length);
    for (int i = 0; i < want.length; i++) due(34, "time " + i, x.time(i), want[i]);
    due(34, "no more", x.time(want.length), NONE);
    for (int w : WRONG) due(34, "no such one", x.time(w), NONE);
  }

  private static void times() {
    times(withDates());
    times(withDates(7, 9), 9);
    times(withDates(0, 0), 0);
    times(withDates(99, 99, 0, 0), 0, 99);
    times(withDates(20, 30, 10, 20), 20);
    times(withDates(21, 30, 10, 20), 20, 30);
    times(withDates(0, 99, 40, 50, 45, 60), 50);
    times(withDates(0, 10, 5, 15, 12, 20, 18, 30, 25, 26), 10, 20, 26);
    times(withDates(1, 1, 2, 2, 3, 3, 4, 4, 5, 5, 6, 6, 7, 7, 8, 8), 1, 2, 3, 4, 5, 6, 7, 8);
    IceAtTheMiddle x = withDates(5, 10);
    x.bed(0, 4, 90, 95, 0, 0);
    times(x, 10);
    due(34, "at once", withDates(5, 10).time(0), 10);
  }

  private static void order() {
    IceAtTheMiddle x = new IceAtTheMiddle();
    for (int land = 0; land < 4; land++) due(35, "empty", x.order(land), 1);
    due(35, "4", x.order(4), UNKNOWN);
    for (int w : WRONG) due(35, "no such LAND", x.order(w), UNKNOWN);
    x.bed(2, 0, 10, 20, 0, 0);
    due(35, "one", x.order(2), 1);
    x.bed(1, 0, 0, 5, 0, 0);
    due(35, "another LAND", x.order(2), 1);
    x.bed(2, 0, 5, 10, 0, 0);
    due(35, "the same ROUND", x.order(2), 1);
    x.bed(2, 0, 0, 9, 0, 0);
    due(35, "ahead of it", x.order(2), 0);
    due(35, "another LAND", x.order(1), 1);
    x.forget();
    x.bed(2, 1, 0, 99, 0, 0);
    due(35, "again", x.order(2), 1);
    x.bed(3, 1, 0, 0, 0, 0);
    x.bed(3, 1, 0, 0, 0, 0);
    due(35, "both in ROUND 0", x.order(3), 1);
    due(36, "both in ROUND 0", x.gap(5), 0);
  }

  private static void gap() {
    IceAtTheMiddle x = new IceAtTheMiddle();
    due(36, "no BED", x.gap(0), UNKNOWN);
    for (int w : WRONG) due(36, "no such BED", x.gap(w), UNKNOWN);
    x.bed(2, 0, 10, 40, 0, 0);
    due(36, "on none", x.gap(0), STATE);
    x.bed(1, 0, 0, 99, 0, 0);
    due(36, "on none of its LAND", x.gap(1), STATE);
    x.bed(2, 1, 20, 60, 0, 0);
    due(36, "60 less 10", x.gap(2), 50);
    x.bed(2, 0, 15, 50, 0, 0);
    due(36, "the upper one is 50 at most", x.gap(2), 40);
    due(36, "the lower one is 20 at least", x.gap(3), 30);
    x.bed(2, 0, 0, 20, 0, 0);
    due(36, "20 at most", x.gap(2), 10);
    due(36, "0", x.gap(3), 0);
    due(36, "0", x.gap(4), 0);
    x.bed(2, 0, 0, 19, 0, 0);
    due(36, "not in order", x.gap(2), STATE);
    due(36, "not in order", x.gap(5), STATE);
    x.bed(1, 0, 0, 99, 0, 0);
    due(36, "another LAND", x.gap(6), 99);
  }

  private static void pole() {
    IceAtTheMiddle x = new IceAtTheMiddle();
    Due.tell(x, 0, "10:3;20:");
    x.bed(0, 1, 10, 10, 2, 0);
    x.bed(0, 2, 0, 99, 5, 10);
    x.bed(0, 3, 0, 9, 3, 10);
    x.bed(0, 8, 0, 99, 3, 10);
    x.bed(0, 1, 19, 30, 3, 10);
    int[] want = {1, 0, 1, 0, 0, 1};
    for (int k = 0; k < 6; k++) due(37, "by " + k, x.pole(0, k), want[k]);
    for (int k = 0; k < 6; k++) due(37, "a STORY without ICE", x.pole(3, k), 0);
    due(37, "6", x.pole(0, 6), OUTSIDE);
    due(37, "UNKNOWN is first", x.pole(4, 6), UNKNOWN);
    for (int w : WRONG) {
      due(37, "no such STORY", x.pole(w, 0), UNKNOWN);
      due(37, "no k", x.pole(0, w), OUTSIDE);
    }
  }

  private static void elsewhere() {
    IceAtTheMiddle x = new IceAtTheMiddle();
    Due.tell(x, 0, "00:0");
    Due.tell(x, 1, "00:5");
    due(38, "no BEDS", x.elsewhere(0), 0);
    x.bed(0, 1, 0, 9, 3, 10);
    due(38, "3", x.elsewhere(0), 3);
    due(38, "none: the least", x.elsewhere(1), 0);
    x.bed(0, 1, 0, 9, 5, 10);
    due(38, "of like ones the least", x.elsewhere(0), 3);
    x.bed(0, 1, 0, 9, 5, 10);
    due(38, "most", x.elsewhere(0), 5);
    due(38, "by the other one", x.elsewhere(1), 0);
    due(38, "4", x.elsewhere(4), UNKNOWN);
    for (int w : WRONG) due(38, "no such STORY", x.elsewhere(w), UNKNOWN);
  }

  // ---- 39 to 41

  private static void slots() {
    IceAtTheMiddle x = new IceAtTheMiddle();
    due(39, "2", x.keep(2), UNKNOWN);
    due(40, "2", x.again(2), UNKNOWN);
    for (int w : WRONG) {
      due(39, "no such SLOT", x.keep(w), UNKNOWN);
      due(40, "no such SLOT", x.again(w), UNKNOWN);
    }
    due(40, "none were kept", x.again(0), STATE);
    x.bed(1, 1, 10, 20, 1, 1);
    x.bed(2, 2, 20, 30, 2, 2);
    x.weight(1, 7);
    due(39, "two", x.keep(1), 2);
    due(40, "none in the other", x.again(0), STATE);
    due(40, "as they are", x.count(1), 2);
    x.forget();
    x.forget();
    x.weight(1, 3);
    due(39, "no BEDS", x.keep(0), 0);
    x.bed(3, 3, 3, 3, 3, 3);
    Due.tell(x, 0, "00:4");
    due(40, "two", x.again(1), 2);
    int[] want = {1, 1, 10, 20, 1, 1, 2, 1};
    for (int i = 0; i < 8; i++) due(40, "the first BED " + i, x.about(0, i), want[i]);
    due(40, "the second", x.about(1, 3), 30);
    due(40, "STORIES stay as they are", x.at(0, 0), 16);
    due(40, "its WEIGHT", x.weight(1, 5), 7);
    x.forget();
    x.bed(0, 0, 0, 0, 0, 0);
    due(40, "the SLOT stays as it was", x.again(1), 2);
    due(40, "the second", x.about(1, 3), 30);
    due(40, "its WEIGHT", x.weight(1, 5), 7);
    due(40, "none", x.again(0), 0);
    due(40, "none are left", x.count(1), 0);
    due(40, "its WEIGHT", x.weight(1, 5), 3);
    x.bed(0, 0, 0, 0, 0, 0);
    due(39, "another time", x.keep(1), 1);
    x.forget();
    due(40, "what was kept last", x.again(1), 1);
    due(40, "what was kept last", x.weight(1, 5), 5);
  }

  private static void allOfEightAreKept() {
    IceAtTheMiddle x = new IceAtTheMiddle();
    for (int i = 0; i < 8; i++) x.bed(i % 4, 15 - i, 10 * i, 20 + 9 * i, i % 6, 10 - i);
    x.weight(3, 9);
    x.keep(0);
    for (int i = 0; i < 8; i++) x.forget();
    for (int i = 0; i < 8; i++) x.bed(0, 0, 0, 0, 0, 0);
    x.weight(3, 2);
    due(40, "eight", x.again(0), 8);
    for (int i = 0; i < 8; i++) {
      int[] want = {i % 4, 15 - i, 10 * i, 20 + 9 * i, i % 6, 10 - i};
      for (int what = 0; what < 6; what++) due(40, "BED " + i + " " + what, x.about(i, what), want[what]);
    }
    due(40, "the last WEIGHT", x.weight(3, 1), 9);
  }

  /** What is forgotten counts no more, for any call. */
  private static void forgottenIsForgotten() {
    IceAtTheMiddle x = new IceAtTheMiddle();
    Due.tell(x, 0, "00:0");
    x.bed(0, 1, 50, 60, 0, 10);
    x.bed(0, 1, 10, 20, 0, 10);
    due(35, "not in order", x.order(0), 0);
    x.forget();
    due(41, "one ICY one", x.count(2), 1);
    due(32, "once", x.once(), 50);
    due(33, "times", x.times(), 1);
    due(34, "time", x.time(0), 60);
    due(35, "in order", x.order(0), 1);
    due(37, "pole", x.pole(0, 0), 1);
    due(28, "odds", x.odds(0, false), 8);
    due(30, "mover", x.mover(), 0);
    x.bed(0, 0, 55, 70, 0, 10);
    x.bed(0, 0, 52, 52, 0, 10);
    x.forget();
    due(36, "gap", x.gap(1), 20);
    x.forget();
    x.forget();
    due(41, "no ICY one", x.count(2), 0);
    due(32, "once", x.once(), NONE);
    due(30, "mover", x.mover(), NONE);
  }

  private static void count() {
    IceAtTheMiddle x = new IceAtTheMiddle();
    x.write(5, 0);
    for (int signs : new int[] {0, 1, 2, 4, 8, 3}) x.bed(0, signs, 0, 0, 0, 0);
    x.weight(0, 9);
    x.weight(3, 0);
    int[] want = {5, 6, 3, 11};
    for (int i = 0; i < 4; i++) due(41, "count " + i, x.count(i), want[i]);
    due(41, "4", x.count(4), OUTSIDE);
    for (int w : WRONG) due(41, "wrong", x.count(w), OUTSIDE);
  }

  private static void twoObjects() {
    IceAtTheMiddle x = Due.withLaw(BREATHING);
    IceAtTheMiddle y = new IceAtTheMiddle();
    x.bed(0, 1, 0, 0, 0, 0);
    x.weight(0, 4);
    x.keep(0);
    Due.tell(x, 0, "00:0");
    due(1, "its own text", y.count(0), 0);
    due(1, "its own LAW", y.lawful(8), 0);
    due(1, "its own BEDS", y.count(1), 0);
    due(1, "its own WEIGHTS", y.count(3), 4);
    due(1, "its own STORIES", y.at(0, 0), 0);
    due(1, "its own SLOTS", y.again(0), STATE);
  }
}
