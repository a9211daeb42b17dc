/** Edges of promises 1 to 9: THE TEXT, LAWS and STORIES. */
final class TextEdges {
  private static final int UNKNOWN = Edge.UNKNOWN, OUTSIDE = Edge.OUTSIDE, STATE = Edge.STATE, FULL = Edge.FULL, NONE = Edge.NONE;
  private static final String LIGHTS = "L000L100L200L300L400L500";
  private static final String WHOLE = LIGHTS + "R0G0F00M0V0W0";
  /** 47 bytes: with another one it is as long as can be. */
  private static final String LONG_STORY = "00:012345;10:012345;20:012345;30:012345;40:0123";

  private TextEdges() {
  }

  static void all() {
    newObject();
    bytes();
    sizesOfWrite();
    fullText();
    wipe();
    faultOfBoth();
    firstByte();
    lengthSetAside();
    notAtItsEnd();
    partsOfLaw();
    figuresOfLaw();
    law();
    lawful();
    entries();
    roundsOfEntries();
    bandsOfEntries();
    tillTheNextEntry();
    story();
    livedByLaw();
    lived();
    at();
  }

  private static IceAtTheMiddle with(String text) {
    IceAtTheMiddle x = new IceAtTheMiddle();
    Due.put(x, text);
    return x;
  }

  private static void law(String text, int want) {
    Edge.due("fault(false) of " + text, with(text).fault(false), want);
  }

  private static void story(String text, int want) {
    Edge.due("fault(true) of " + text, with(text).fault(true), want);
  }

  private static void newObject() {
    Edge.promises(1, "A dark earth, no BEDS.");
    IceAtTheMiddle x = new IceAtTheMiddle();
    for (int what = 0; what < 12; what++) Edge.due("lawful(" + what + ")", x.lawful(what), 0);
    for (int band = 0; band < 6; band++) Edge.due("warmth", x.warmth(band, 63, 99), 0);
    Edge.due("no BEDS", x.count(1), 0);
    Edge.due("no BED 0", x.about(0, 0), UNKNOWN);
    Edge.due("an empty TEXT", x.count(0), 0);
    Edge.due("nothing kept", x.again(0), STATE);
    Edge.due("nothing kept", x.again(1), STATE);
  }

  private static void bytes() {
    Edge.says(2, "THE TEXT is bytes (48 at most).");
    IceAtTheMiddle x = new IceAtTheMiddle();
    for (int i = 0; i < 47; i++) x.write(1, 0);
    Edge.due("the 48th", x.write(1, 255), 48);
    Edge.due("a 49th", x.write(1, 0), FULL);
    Edge.due("all are there", x.wipe(), 48);
    Edge.due("a byte beyond 127 is one", x.write(1, 0x80 | 'R'), 1);
    Edge.due("it is not R", x.fault(false), 0);
  }

  private static void sizesOfWrite() {
    Edge.promises(2, "n bytes (1 to 8) of v, the lowest n, the highest of these first, come behind THE TEXT: how long it is.");
    String parts = "V9W8M7G6";
    for (int n = 1; n <= 8; n++) {
      IceAtTheMiddle x = new IceAtTheMiddle();
      long v = -1;
      for (int i = 0; i < n; i++) v = v << 8 | parts.charAt(i);
      Edge.due(n + " bytes", x.write(n, v), n);
      Edge.due(n + " bytes as told", x.fault(false), n % 2 == 0 ? NONE : n);
    }
    IceAtTheMiddle x = with("R5");
    Edge.due("behind it", x.write(2, 'G' << 8 | '4'), 4);
    Edge.due("two PARTS", x.law(), 2);
    Edge.due("the first stays", x.lawful(6), 5);
    Edge.due("the second came", x.lawful(7), 4);
    Edge.due("the lowest v", x.write(8, Long.MIN_VALUE), 12);
    Edge.due("the highest v", x.write(8, Long.MAX_VALUE), 20);

    Edge.promises(2, "OUTSIDE");
    for (int n : new int[] {0, 9, -1, -8, 256 + 1, 65536 + 1, Integer.MIN_VALUE + 1, Integer.MIN_VALUE, Integer.MAX_VALUE}) {
      Edge.due("write(" + n + ")", x.write(n, 'R'), OUTSIDE);
    }
    Edge.due("nothing came", x.count(0), 20);
  }

  private static void fullText() {
    Edge.promises(2, "FULL: it would be longer than 48 (nothing comes).");
    for (int n = 1; n <= 8; n++) {
      IceAtTheMiddle x = new IceAtTheMiddle();
      for (int i = 0; i < 48 - n; i++) x.write(1, 'R');
      Edge.due(n + " more have room", x.write(n, 0), 48);
      x.wipe();
      for (int i = 0; i < 49 - n; i++) x.write(1, 'R');
      Edge.due(n + " more have none", x.write(n, 0), FULL);
      Edge.due("not even some of them came", x.count(0), 49 - n);
      if (n > 1) Edge.due("fewer have room", x.write(n - 1, 0), 48);
    }
    IceAtTheMiddle x = with(LONG_STORY);
    Edge.due("one too many", x.write(2, '4' << 8 | '5'), FULL);
    Edge.due("five ENTRIES as they were", x.story(0), 5);
    Edge.due("ICE as it was", x.at(0, 99), 15);
    Edge.due("one is not", x.write(1, '4'), 48);
    x.story(0);
    Edge.due("ICE as it is", x.at(0, 99), 31);
  }

  private static void wipe() {
    Edge.promises(3, "THE TEXT is empty: how long it was.");
    IceAtTheMiddle x = new IceAtTheMiddle();
    Edge.due("empty", x.wipe(), 0);
    x.write(1, 'R');
    Edge.due("one", x.wipe(), 1);
    Edge.due("twice", x.wipe(), 0);
    for (int i = 0; i < 6; i++) x.write(8, -1);
    Edge.due("full", x.wipe(), 48);
    Edge.due("nothing is left of it", x.fault(false), NONE);
    Edge.due("room for all", x.write(8, 0), 8);
    IceAtTheMiddle y = Due.withLaw("R5");
    y.wipe();
    Edge.due("THE LAW stays", y.lawful(6), 5);
  }

  private static void faultOfBoth() {
    Edge.promises(4, "FAULT of a LAW (story = false), of a STORY; NONE.");
    law("", NONE);
    story("", 0);
    law("R5", NONE);
    story("R5", 0);
    law("00:", 0);
    story("00:", NONE);

    Edge.says(4, "NONE: none.");
    law(WHOLE, NONE);
    story(LONG_STORY + "4", NONE);
  }

  private static void firstByte() {
    Edge.says(4, "FAULT (of a LAW, of a STORY): the place (from 0 on) of the first byte by which THE TEXT can be none,"
        + " whatever came behind it (its length set aside)");
    law("X", 0);
    law("R5X", 2);
    law("XR5X", 0);
    law("RX5", 1);
    law(LIGHTS + "L", 24);
    law(LIGHTS + "R5L", 26);
    law(WHOLE + "R", 37);
    law(WHOLE + "L", 37);
    law(WHOLE + "XXXXXXXXXXX", 37);
    law("L000L100L200L300L400L4", 21);
    story("X", 0);
    story(";", 0);
    story("99:;", 3);
    story("99:012345;", 9);
    story("10:;0", 4);
    story("19:;1", 4);
    story("18:;18", 5);
    story("98:;98", 5);
    story("90:;8", 4);
    story("00:6", 3);
    story("00:55", 4);
  }

  private static void lengthSetAside() {
    Edge.says(4, "(its length set aside)");
    story(LONG_STORY + ";", 48);
    story(LONG_STORY.substring(0, 46) + ";5", 48);
    story(LONG_STORY.substring(0, 45) + ";50", 48);
    story(LONG_STORY.substring(0, 46) + ";4", 48);
    story(LONG_STORY.substring(0, 46) + ";3", 47);
    story(LONG_STORY + "3", 47);
  }

  private static void notAtItsEnd() {
    Edge.says(4, "its length, if it is only not at its end");
    String[] laws = {"L", "L5", "L59", "R", "G", "F", "F9", "M", "V", "W", LIGHTS + "F", "L000L100L200L300L400L"};
    for (String text : laws) law(text, text.length());
    String[] stories = {"", "0", "9", "99", "00:;", "00:;0", "00:;01", "98:;", "98:;9", "98:;99", "18:;1", "89:;9"};
    for (String text : stories) story(text, text.length());
    oneBehindAnother();
  }

  /** What a text ahead left unfinished is nothing to the next one. */
  private static void oneBehindAnother() {
    IceAtTheMiddle x = new IceAtTheMiddle();
    for (String text : new String[] {"L", "L0", "L00", "R", "F", "F1", "R5R", "L6", "X"}) {
      Due.text(x, text);
      x.fault(false);
      x.wipe();
      Edge.due("an empty one behind " + text, x.fault(false), NONE);
      Due.text(x, "R5L012F34");
      Edge.due("a LAW behind " + text, x.fault(false), NONE);
      Edge.due("three PARTS behind " + text, x.law(), 3);
    }
    for (String text : new String[] {"", "9", "99", "99:;", "50:5;", "50:5;5", "50:5;51", "99:5x", "00:012345"}) {
      Due.text(x, text);
      x.fault(true);
      Due.text(x, "00:0;98:;99:5");
      Edge.due("a STORY behind " + text, x.fault(true), NONE);
      Edge.due("three ENTRIES behind " + text, x.story(0), 3);
      Edge.due("its own ICE behind " + text, x.at(0, 50), 1);
    }
  }

  private static void partsOfLaw() {
    Edge.says(5, "A LAW is a TEXT of PARTS, none or more");
    Edge.due("none", with("").law(), 0);
    Edge.due("one", with("W0").law(), 1);
    Edge.due("all of them", with(WHOLE).law(), 12);
    Edge.due("in any order", with("W0V0M0F00G0R0L500L400L300L200L100L000").law(), 12);

    Edge.says(4, "of a kind (and a BAND) at most once:");
    String[] parts = {"R1", "G1", "F11", "M1", "V1", "W1"};
    for (String part : parts) law(part + part, part.length());
    for (String part : parts) law(part + "L000" + part, part.length() + 4);
    for (int band = 0; band < 6; band++) {
      law("L" + band + "11L" + band, 5);
      law("L" + band + "11L" + (band + 1) % 6 + "11", NONE);
    }
    law("R0R", 2);
    law("F00F", 3);
    law("L000L000", 5);
  }

  private static void part(String words, String kind, int what, int most) {
    Edge.says(6, words);
    int figures = most > 9 ? 2 : 1;
    for (int v : new int[] {0, 1, most - 1, most}) {
      String text = kind + (figures == 2 && v < 10 ? "0" : "") + v;
      Edge.due(text, Due.withLaw(text).lawful(what), v);
      Edge.due(text + ": all else is 0", Due.withLaw(text).lawful(what == 6 ? 7 : 6), 0);
    }
    Edge.due("else 0", Due.withLaw("").lawful(what), 0);
    for (char wrong : new char[] {'/', ':', 'x', ' ', 0, 255}) {
      Edge.due("no figure", with(kind + wrong).fault(false), kind.length());
      if (figures == 2) Edge.due("no second figure", with(kind + "9" + wrong).fault(false), kind.length() + 1);
    }
    String more = kind + "1234".substring(0, figures + 1);
    Edge.due("a figure too many", with(more).fault(false), more.length() - 1);
  }

  private static void figuresOfLaw() {
    for (int band = 0; band < 6; band++) part("Lbxy LIGHT of BAND b is xy (two figures; else 0)", "L" + band, band, 99);
    for (char wrong : new char[] {'6', '9', '/', ':', 'L', 0, 255}) {
      Edge.due("no such BAND", with("L" + wrong + "11").fault(false), 1);
    }
    part("Rx ICE throws back x tenths of it (0 to 9; else 0)", "R", 6, 9);
    part("Gx each of AIR warms by x (0 to 9; else 0)", "G", 7, 9);
    part("Fxy it freezes below xy (else 0)", "F", 8, 99);
    part("Mx it melts at x more than that, and above (else 0)", "M", 9, 9);
    part("Vx mountains breathe x AIR a ROUND (else 0)", "V", 10, 9);
    part("Wx each BAND without ICE takes x of AIR a ROUND (else 0)", "W", 11, 9);
  }

  private static void law() {
    Edge.promises(5, "THE TEXT (that stays as it is, as all else does) is THE LAW: how many PARTS.");
    IceAtTheMiddle x = new IceAtTheMiddle();
    Due.tell(x, 3, "00:5");
    x.bed(1, 2, 3, 4, 5, 6);
    x.weight(2, 7);
    x.keep(1);
    Due.text(x, "F12W3");
    Edge.due("two", x.law(), 2);
    Edge.due("the same once more", x.law(), 2);
    Edge.due("THE TEXT stays", x.fault(false), NONE);
    Edge.due("its length stays", x.count(0), 5);
    Edge.due("a STORY stays", x.at(3, 99), 32);
    Edge.due("a BED stays", x.about(0, 3), 4);
    Edge.due("a WEIGHT stays", x.weight(2, 7), 7);
    Edge.due("what was kept stays", x.again(1), 1);
    x.wipe();
    Edge.due("an empty one", x.law(), 0);
    Edge.due("nothing of the one ahead", x.lawful(8), 0);

    Edge.promises(5, "STATE: a FAULT.");
    String[] faulty = {"R", "R5R", "F1", "L6", "L000L0", "X", "99:", WHOLE + "0"};
    for (String text : faulty) {
      IceAtTheMiddle y = Due.withLaw("R7F22");
      Due.text(y, text);
      Edge.due(text, y.law(), STATE);
      Edge.due("R is as it was by " + text, y.lawful(6), 7);
      Edge.due("F is as it was by " + text, y.lawful(8), 22);
      Edge.due("L0 is as it was by " + text, y.lawful(0), 0);
    }
  }

  private static void lawful() {
    Edge.promises(6, "Of THE LAW: LIGHT of BAND 0 to 5 (what = 0 to 5), R (6), G (7), F (8), M (9), V (10), W (11).");
    IceAtTheMiddle x = Due.withLaw("L010L121L232L343L454L565R1G2F34M5V6W7");
    int[] want = {10, 21, 32, 43, 54, 65, 1, 2, 34, 5, 6, 7};
    for (int what = 0; what < 12; what++) Edge.due("lawful(" + what + ")", x.lawful(what), want[what]);

    Edge.promises(6, "OUTSIDE.");
    Edge.due("12", x.lawful(12), OUTSIDE);
    for (int what : Edge.FAR) Edge.due("lawful(" + what + ")", x.lawful(what), OUTSIDE);
  }

  private static void entries() {
    Edge.says(7, "As a TEXT: ENTRIES with a ; between them (one at least)");
    Edge.due("none", with("").story(0), STATE);
    Edge.due("one", with("00:").story(0), 1);
    Edge.due("two", with("00:;01:").story(0), 2);
    Edge.due("none between", with("00:01:").fault(true), 5);
    Edge.due("none at the end", with("00:;").fault(true), 4);
    Edge.due("none ahead", with(";00:").fault(true), 0);
    Edge.due("not two", with("00:;;01:").fault(true), 4);
    Edge.due("another sign", with("00:,01:").fault(true), 3);
    Edge.due("as many as there is room for", with("88:;89:;90:;91:;92:;93:;94:;95:;96:;97:;98:;99:").story(0), 12);
  }

  private static void roundsOfEntries() {
    Edge.says(4, "a ROUND (two figures; each greater than that ahead), a colon");
    story("00:", NONE);
    story("99:", NONE);
    story("0:", 1);
    story("000:", 2);
    story("0x:", 1);
    story("00;", 2);
    story("000", 2);
    story("00:;00:", 5);
    story("00:;01:", NONE);
    story("09:;10:", NONE);
    story("10:;09:", 4);
    story("10:;10:", 5);
    story("50:;49:", 4);
    story("98:;99:", NONE);
    story("99:;99:", 3);
    story("00:;99:;99:", 7);
  }

  private static void bandsOfEntries() {
    Edge.says(7, "BANDS that have ICE (none or more figures, each greater than that ahead)");
    Edge.due("none", toldAt("00:", 0), 0);
    for (int band = 0; band < 6; band++) Edge.due("one", toldAt("00:" + band, 0), 1 << band);
    Edge.due("all", toldAt("00:012345", 0), 63);
    Edge.due("some", toldAt("00:035", 0), 41);
    Edge.due("each ENTRY begins anew", toldAt("00:5;01:0", 1), 1);
    Edge.due("6", with("00:6").fault(true), 3);
    Edge.due("the same", with("00:22").fault(true), 4);
    Edge.due("less", with("00:21").fault(true), 4);
    Edge.due("behind all", with("00:0123450").fault(true), 9);
  }

  private static int toldAt(String text, int round) {
    IceAtTheMiddle x = new IceAtTheMiddle();
    Due.tell(x, 0, text);
    return x.at(0, round);
  }

  private static void tillTheNextEntry() {
    Edge.says(9, "so from that ROUND on till the next ENTRY; ahead of the first none has.");
    String text = "01:0;02:1;50:;99:5";
    int[][] want = {{0, 0}, {1, 1}, {2, 2}, {49, 2}, {50, 0}, {98, 0}, {99, 32}};
    for (int[] w : want) Edge.due("in ROUND " + w[0], toldAt(text, w[0]), w[1]);
    Edge.due("at once", toldAt("00:3", 0), 8);
    Edge.due("to the end", toldAt("00:3", 99), 8);
    Edge.due("the last alone", toldAt("99:3", 98), 0);
    Edge.due("the last alone", toldAt("99:3", 99), 8);

    Edge.says(9, "A STORY tells ICE for ROUNDS 0 to 99.");
    IceAtTheMiddle x = new IceAtTheMiddle();
    Due.tell(x, 0, "00:012345");
    Edge.due("-1", x.at(0, -1), OUTSIDE);
    Edge.due("0", x.at(0, 0), 63);
    Edge.due("99", x.at(0, 99), 63);
    Edge.due("100", x.at(0, 100), OUTSIDE);

    Edge.says(9, "STORIES 0 to 3 (none has ICE at first)");
    IceAtTheMiddle y = new IceAtTheMiddle();
    for (int story = 0; story < 4; story++) {
      for (int round = 0; round < 100; round += 33) Edge.due("at first", y.at(story, round), 0);
    }
    Edge.due("-1", y.at(-1, 0), UNKNOWN);
    Edge.due("4", y.at(4, 0), UNKNOWN);
  }

  private static void story() {
    Edge.promises(7, "THE TEXT is a STORY: how many ENTRIES.");
    IceAtTheMiddle x = with("10:0;20:");
    for (int story = 0; story < 4; story++) {
      Edge.due("two", x.story(story), 2);
      Edge.due("told", x.at(story, 10), 1);
      if (story < 3) Edge.due("the next one is not", x.at(story + 1, 10), 0);
    }
    Edge.due("THE TEXT stays", x.count(0), 8);
    Due.tell(x, 3, "99:5");
    Edge.due("told anew", x.at(3, 10), 0);
    Edge.due("others stay", x.at(2, 10), 1);

    Edge.promises(7, "UNKNOWN; STATE: a FAULT.");
    Edge.due("4", x.story(4), UNKNOWN);
    for (int story : Edge.FAR) Edge.due("story(" + story + ")", x.story(story), UNKNOWN);
    for (String faulty : new String[] {"", "0", "10:;", "99:;", "10:;10:5", "00:6", "R5"}) {
      Due.text(x, faulty);
      Edge.due(faulty, x.story(0), STATE);
      Edge.due("as it was by " + faulty, x.at(0, 10), 1);
      Edge.due("as it was by " + faulty, x.at(0, 20), 0);
    }
  }

  /** By this LAW WARMTH is AIR; it freezes at AIR 0, and AIR falls by 1 a ROUND till then. */
  private static final String FALLING = "G1F01V5W1";

  private static void livedByLaw() {
    Edge.says(8, "Or by THE LAW from ICE and AIR at ROUND 0 on.");
    IceAtTheMiddle x = Due.withLaw(FALLING);
    Edge.due("WHITE in ROUND 99 alone", x.lived(0, 0, 98), 1);
    Edge.due("not in 98", x.at(0, 98), 0);
    Edge.due("in 99", x.at(0, 99), 63);
    Edge.due("ROUND 100 is none", x.lived(0, 0, 99), 0);
    Edge.due("not in 99", x.at(0, 99), 0);
    Edge.due("two", x.lived(0, 0, 97), 2);
    // WHITE in ROUND 0, and in two of each 13 from ROUND 57 on.
    Edge.due("ROUND 0 is as told", x.lived(1, 63, 50), 9);
    Edge.due("ROUND 0", x.at(1, 0), 63);
    Edge.due("ROUND 1", x.at(1, 1), 0);
  }

  private static void lived() {
    Edge.promises(8, "A STORY is what THE LAW makes from ICE and AIR on (as THE LAW is now): in how many ROUNDS it is WHITE.");
    IceAtTheMiddle x = Due.withLaw("F99");
    Edge.due("in all", x.lived(0, 63, 0), 100);
    Edge.due("in all but the first", x.lived(1, 62, 99), 99);
    Edge.due("ICE at first", x.at(1, 0), 62);
    x.wipe();
    x.law();
    Edge.due("another LAW changes nothing", x.at(0, 99), 63);
    Edge.due("by that in the first alone", x.lived(2, 63, 0), 1);
    Edge.due("in none", x.lived(3, 31, 0), 0);
    Edge.due("others stay", x.at(1, 99), 63);

    Edge.promises(8, "UNKNOWN; OUTSIDE: ice, air.");
    Edge.due("4", x.lived(4, 0, 0), UNKNOWN);
    Edge.due("64", x.lived(0, 64, 0), OUTSIDE);
    Edge.due("100", x.lived(0, 0, 100), OUTSIDE);
    for (int far : Edge.FAR) {
      Edge.due("STORY " + far, x.lived(far, 0, 0), UNKNOWN);
      Edge.due("ICE " + far, x.lived(0, far, 0), OUTSIDE);
      Edge.due("AIR " + far, x.lived(0, 0, far), OUTSIDE);
    }
    Edge.due("as it was", x.at(0, 0), 63);
    Edge.due("as it was", x.at(0, 99), 63);
  }

  private static void at() {
    Edge.promises(9, "ICE of a STORY in a ROUND.");
    IceAtTheMiddle x = new IceAtTheMiddle();
    for (int story = 0; story < 4; story++) Due.tell(x, story, "00:" + story + ";99:012345");
    for (int story = 0; story < 4; story++) {
      Edge.due("0", x.at(story, 0), 1 << story);
      Edge.due("98", x.at(story, 98), 1 << story);
      Edge.due("99", x.at(story, 99), 63);
    }

    Edge.promises(9, "UNKNOWN; OUTSIDE: round.");
    Edge.due("4", x.at(4, 0), UNKNOWN);
    Edge.due("100", x.at(0, 100), OUTSIDE);
    for (int far : Edge.FAR) {
      Edge.due("STORY " + far, x.at(far, 0), UNKNOWN);
      Edge.due("ROUND " + far, x.at(0, far), OUTSIDE);
    }
  }
}
