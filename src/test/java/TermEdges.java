/** Edges that the document names for all calls: how many there may be, which refusal comes first, what a refusal changes. */
final class TermEdges {
  private static final int UNKNOWN = Edge.UNKNOWN, OUTSIDE = Edge.OUTSIDE, STATE = Edge.STATE, FULL = Edge.FULL, NONE = Edge.NONE;

  private TermEdges() {
  }

  static void all() {
    fiveHundredAndTwelve();
    firstRefusalOfTexts();
    firstRefusalOfBeds();
    nothingChanges();
    slotsDoNotChange();
    none();
    refusalsOfFractions();
  }

  private static void fiveHundredAndTwelve() {
    Edge.says(1, "An object is used for at most 512 calls after it has been made");
    IceAtTheMiddle dear = Due.withLaw("L050L140L230L320L410G1F50V1W1");
    for (int i = 0; i < 505; i++) dear.after(i % 64, i % 100, 100000);
    Edge.due("the 512th", dear.lawful(8), 50);
    IceAtTheMiddle x = new IceAtTheMiddle();
    for (int i = 0; i < 255; i++) {
      x.bed(0, 1, 0, 0, 0, 0);
      x.forget();
    }
    Edge.due("the 511th", x.bed(3, 1, 0, 0, 0, 0), 0);
    Edge.due("the 512th", x.about(0, 0), 3);
  }

  private static final String FIRST = "REFUSALS, of several the first that a call names: UNKNOWN (there is no such BAND, BED, STORY, LAND,"
      + " SLOT), OUTSIDE (another number is not as told), STATE (as told), FULL.";

  private static void firstRefusalOfTexts() {
    IceAtTheMiddle x = new IceAtTheMiddle();
    for (int i = 0; i < 6; i++) x.write(8, 0);
    Edge.says(2, FIRST);
    Edge.due("OUTSIDE ahead of FULL", x.write(9, 0), OUTSIDE);
    Edge.due("FULL alone", x.write(8, 0), FULL);
    Edge.says(7, FIRST);
    Edge.due("UNKNOWN ahead of STATE", x.story(4), UNKNOWN);
    Edge.due("STATE alone", x.story(3), STATE);
    Edge.says(8, FIRST);
    Edge.due("UNKNOWN ahead of OUTSIDE", x.lived(4, 64, 100), UNKNOWN);
    Edge.due("OUTSIDE alone", x.lived(3, 64, 100), OUTSIDE);
    Edge.says(9, FIRST);
    Edge.due("UNKNOWN ahead of OUTSIDE", x.at(4, 100), UNKNOWN);
    Edge.due("OUTSIDE alone", x.at(3, 100), OUTSIDE);
    Edge.says(10, FIRST);
    Edge.due("UNKNOWN ahead of OUTSIDE", x.warmth(6, 64, 100), UNKNOWN);
    Edge.due("OUTSIDE alone", x.warmth(5, 64, 100), OUTSIDE);
  }

  private static void firstRefusalOfBeds() {
    IceAtTheMiddle x = new IceAtTheMiddle();
    for (int i = 0; i < 8; i++) x.bed(0, 0, 99 - i, 99 - i, 0, 0);
    for (int story = 0; story < 4; story++) x.weight(story, 0);
    Edge.says(22, FIRST);
    Edge.due("a LAND ahead of OUTSIDE and FULL", x.bed(4, 16, 9, 8, 0, 11), UNKNOWN);
    Edge.due("a NEEDLE ahead of OUTSIDE and FULL", x.bed(0, 16, 9, 8, 6, 11), UNKNOWN);
    Edge.due("SIGNS ahead of FULL", x.bed(0, 16, 0, 0, 0, 0), OUTSIDE);
    Edge.due("OLD ahead of FULL", x.bed(0, 0, -1, 0, 0, 0), OUTSIDE);
    Edge.due("YOUNG ahead of FULL", x.bed(0, 0, 9, 8, 0, 0), OUTSIDE);
    Edge.due("FIRST ahead of FULL", x.bed(0, 0, 0, 0, 0, 11), OUTSIDE);
    Edge.due("FULL alone", x.bed(0, 0, 0, 0, 0, 0), FULL);
    Edge.says(24, FIRST);
    Edge.due("UNKNOWN ahead of OUTSIDE", x.about(8, 8), UNKNOWN);
    Edge.due("OUTSIDE alone", x.about(7, 8), OUTSIDE);
    Edge.says(25, FIRST);
    Edge.due("a STORY ahead of STATE", x.explains(4, 0), UNKNOWN);
    Edge.due("STATE alone", x.explains(3, 0), STATE);
    Edge.says(27, FIRST);
    Edge.due("UNKNOWN ahead of OUTSIDE", x.weight(4, 10), UNKNOWN);
    Edge.due("OUTSIDE alone", x.weight(3, 10), OUTSIDE);
    Edge.says(28, FIRST);
    Edge.due("UNKNOWN ahead of STATE", x.odds(4, true), UNKNOWN);
    Edge.due("STATE alone", x.odds(3, true), STATE);
    Edge.says(36, FIRST);
    Edge.due("UNKNOWN ahead of STATE", x.gap(8), UNKNOWN);
    Edge.due("STATE alone", x.gap(7), STATE);
    Edge.says(37, FIRST);
    Edge.due("UNKNOWN ahead of OUTSIDE", x.pole(4, 6), UNKNOWN);
    Edge.due("OUTSIDE alone", x.pole(3, 6), OUTSIDE);
    Edge.says(40, FIRST);
    Edge.due("UNKNOWN ahead of STATE", x.again(2), UNKNOWN);
    Edge.due("STATE alone", x.again(1), STATE);
  }

  private interface Change {
    int of(IceAtTheMiddle x);
  }

  private static void refused(int promise, String text, int beds, int refusal, Change change) {
    Edge.says(promise, "What is refused changes nothing.");
    IceAtTheMiddle x = Due.withLaw("L012R3F45");
    Due.tell(x, 0, "00:0;50:1");
    Due.tell(x, 3, "00:012345");
    x.weight(1, 7);
    for (int i = 0; i < beds; i++) x.bed(i % 4, i, i, 90 + i, i % 6, i);
    Due.text(x, text);
    String before = Due.picture(x);
    Edge.due("it is refused", change.of(x), refusal);
    Edge.due("all is as it was", before.equals(Due.picture(x)) ? 1 : 0, 1);
  }

  private static void nothingChanges() {
    String full = "00:012345;10:012345;20:012345;30:012345;40:01234";
    refused(2, full, 3, FULL, x -> x.write(1, '5'));
    refused(2, full, 3, OUTSIDE, x -> x.write(0, '5'));
    refused(2, "00:", 3, OUTSIDE, x -> x.write(9, '5'));
    refused(5, "R9F88L0", 3, STATE, IceAtTheMiddle::law);
    refused(7, "00:5;10:0;", 3, STATE, x -> x.story(0));
    refused(7, "00:5;10:0", 3, UNKNOWN, x -> x.story(4));
    refused(8, "", 3, OUTSIDE, x -> x.lived(0, 64, 0));
    refused(8, "", 3, OUTSIDE, x -> x.lived(0, 0, 100));
    refused(8, "", 3, UNKNOWN, x -> x.lived(4, 0, 0));
    refused(22, "", 8, FULL, x -> x.bed(3, 15, 50, 60, 5, 10));
    refused(22, "", 3, OUTSIDE, x -> x.bed(3, 15, 60, 50, 5, 10));
    refused(22, "", 3, UNKNOWN, x -> x.bed(4, 15, 50, 60, 5, 10));
    refused(23, "", 0, STATE, IceAtTheMiddle::forget);
    refused(27, "", 3, OUTSIDE, x -> x.weight(0, 10));
    refused(27, "", 3, UNKNOWN, x -> x.weight(4, 9));
    refused(39, "", 3, UNKNOWN, x -> x.keep(2));
    refused(40, "", 3, STATE, x -> x.again(0));
    refused(40, "", 3, UNKNOWN, x -> x.again(2));
  }

  private static void slotsDoNotChange() {
    Edge.says(39, "What is refused changes nothing.");
    IceAtTheMiddle x = new IceAtTheMiddle();
    x.bed(1, 1, 1, 1, 1, 1);
    x.keep(0);
    x.keep(1);
    x.forget();
    Edge.due("no SLOT 2", x.keep(2), UNKNOWN);
    Edge.due("no SLOT -1", x.keep(-1), UNKNOWN);
    Edge.due("SLOT 0 is as it was", x.again(0), 1);
    x.forget();
    Edge.due("SLOT 1 is as it was", x.again(1), 1);
  }

  private static void none() {
    Edge.says(32, "NONE is -9.");
    Edge.due("NONE", IceAtTheMiddle.NONE, -9);
    Edge.due("once", new IceAtTheMiddle().once(), NONE);
  }

  private static void refusalsOfFractions() {
    Edge.says(28, "refusals of them are told likewise.");
    IceAtTheMiddle x = new IceAtTheMiddle();
    for (int story = 0; story < 4; story++) x.weight(story, 0);
    for (boolean upper : new boolean[] {true, false}) {
      Edge.due("UNKNOWN", x.odds(4, upper), UNKNOWN);
      Edge.due("STATE", x.odds(0, upper), STATE);
    }
    Edge.says(26, "refusals of them are told likewise.");
    for (boolean upper : new boolean[] {true, false}) Edge.due("UNKNOWN", x.chance(0, 0, upper), UNKNOWN);
  }
}
