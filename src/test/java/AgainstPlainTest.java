/** Long runs of calls, the same ones on the class and on Plain; each answer must be the same. */
public final class AgainstPlainTest {
  private static final int RUNS = 120;
  /** An object is used for 512 calls at most; what is begun at this many ends ahead of that. */
  private static final int CALLS = 450;
  private static final int[] STRANGE = {-1, -2, 4, 5, 6, 7, 8, 9, 10, 11, 12, 15, 16, 63, 64, 99, 100, 100000, 100001,
      Integer.MAX_VALUE, Integer.MIN_VALUE, Integer.MAX_VALUE - 1, 1 << 16, -100};

  private final IceAtTheMiddle x = new IceAtTheMiddle();
  private final Plain p = new Plain();
  private final int run;
  private long seed;
  private int calls;

  private AgainstPlainTest(int run) {
    this.run = run;
    seed = run * 7919L + 13;
  }

  /** The same numbers at each run of the tests. */
  private int upTo(int n) {
    seed = seed * 6364136223846793005L + 1442695040888963407L;
    return (int) ((seed >>> 33) % n);
  }

  /** Mostly 0 to n - 1, at times something that is not as told. */
  private int pick(int n) {
    if (upTo(25) == 0) return STRANGE[upTo(STRANGE.length)];
    return upTo(n);
  }

  private int date() {
    return run % 3 == 0 ? upTo(14) * 7 : upTo(100);
  }

  private static String two(int v) {
    return "" + v / 10 + v % 10;
  }

  /** Laws around which something happens: light that falls off, air that goes up and down. */
  private String someLaw() {
    StringBuilder t = new StringBuilder();
    int light = 25 + upTo(45);
    for (int b = 0; b < 6; b++) {
      if (upTo(12) != 0) t.append('L').append(b).append(two(Math.max(0, Math.min(99, light))));
      light -= upTo(9) - (run % 5 == 0 ? 4 : 0);
    }
    if (upTo(8) != 0) t.append('R').append(2 + upTo(6));
    if (upTo(8) != 0) t.append('G').append(1 + upTo(3));
    if (upTo(8) != 0) t.append('F').append(two(10 + upTo(30)));
    if (upTo(3) != 0) t.append('M').append(upTo(10));
    if (upTo(4) != 0) t.append('V').append(upTo(10));
    if (upTo(3) != 0) t.append('W').append(upTo(4));
    return t.toString();
  }

  private String someStory() {
    StringBuilder t = new StringBuilder();
    int round = upTo(30);
    for (int i = 0; i < 5 && round < 100 && t.length() < 38; i++) {
      if (i > 0) t.append(';');
      t.append(two(round)).append(':');
      for (int b = 0; b < 6; b++) if (upTo(5) < 2) t.append(b);
      round += 1 + upTo(30);
    }
    return t.toString();
  }

  private String spoilt(String t) {
    if (t.isEmpty()) return "?";
    int at = upTo(t.length());
    String some = "0123456789:;LRGFMVW" + (char) 200 + (char) 0 + "x";
    String other = "" + some.charAt(upTo(some.length()));
    int how = upTo(4);
    if (how == 0) return t.substring(0, at);
    if (how == 1) return t.substring(0, at) + other + t.substring(at);
    if (how == 2) return t.substring(0, at) + t.substring(at + 1);
    return t.substring(0, at) + other + t.substring(at + 1);
  }

  private void due(String call, long got, long want) {
    calls++;
    Due.is("run " + run + ": " + call, got, want);
  }

  private void put(String t) {
    due("wipe", x.wipe(), p.wipe());
    int i = 0;
    while (i < t.length()) {
      int n = Math.min(1 + upTo(8), t.length() - i);
      long v = upTo(2) == 0 ? -1L : 0L;
      for (int j = 0; j < n; j++) v = v << 8 | t.charAt(i + j) & 255;
      due("write " + n + " " + v, x.write(n, v), p.write(n, v));
      i += n;
    }
  }

  private void texts() {
    boolean story = upTo(2) == 0;
    String t = story ? someStory() : someLaw();
    put(upTo(3) == 0 ? spoilt(t) : t);
    due("fault story", x.fault(true), p.fault(true));
    due("fault law", x.fault(false), p.fault(false));
    if (story) {
      int to = pick(4);
      due("story " + to, x.story(to), p.story(to));
    } else {
      due("law", x.law(), p.law());
    }
    int n = pick(9);
    due("write more", x.write(n, seed), p.write(n, seed));
  }

  private void tellings() {
    int s = pick(4), i = pick(64), a = pick(100), r = pick(100), w = pick(12);
    if (upTo(6) == 0) due("lived " + s + " " + i + " " + a, x.lived(s, i, a), p.lived(s, i, a));
    due("at " + s + " " + r, x.at(s, r), p.at(s, r));
    due("lawful " + w, x.lawful(w), p.lawful(w));
  }

  private void earth() {
    int b = pick(6), i = upTo(3) == 0 ? 63 : pick(64), a = pick(100), l = pick(100), w = pick(5), k = pick(5) - 1;
    String with = " " + i + " " + a + " ";
    switch (upTo(12)) {
      case 0: due("warmth " + b + with, x.warmth(b, i, a), p.warmth(b, i, a)); break;
      case 1: due("round" + with, x.round(i, a), p.round(i, a)); break;
      case 2: due("after" + with + l, x.after(i, a, l), p.after(i, a, l)); break;
      case 3: due("after" + with + 997 * l, x.after(i, a, 997 * l), p.after(i, a, 997 * l)); break;
      case 4: due("run" + with + w, x.run(i, a, w), p.run(i, a, w)); break;
      case 5: due("till" + with, x.till(i, a, w > 2), p.till(i, a, w > 2)); break;
      case 6: due("rests " + a, x.rests(a), p.rests(a)); break;
      case 7: due("rest " + a + " " + k, x.rest(a, k), p.rest(a, k)); break;
      case 8: due("settle" + with, x.settle(i, a), p.settle(i, a)); break;
      case 9: due("jumps" + with + l, x.jumps(i, a, l), p.jumps(i, a, l)); break;
      case 10: due("jump" + with + l + " " + k, x.jump(i, a, l, k), p.jump(i, a, l, k)); break;
      default: due("curve" + with + l, x.curve(i, a, l), p.curve(i, a, l)); break;
    }
    if (upTo(20) == 0) due("least", x.least(w > 2), p.least(w > 2));
  }

  private void beds() {
    int land = pick(run % 2 == 0 ? 2 : 4), signs = pick(16), old = date(), young = date(), needle = pick(6);
    if (young < old && upTo(20) != 0) {
      int t = old;
      old = young;
      young = t;
    }
    int first = pick(11);
    if (upTo(3) == 0) first = 10;
    due("bed", x.bed(land, signs, old, young, needle, first), p.bed(land, signs, old, young, needle, first));
    if (upTo(3) == 0) due("forget", x.forget(), p.forget());
    int s = pick(4), v = pick(10), what = pick(8), bed = pick(9);
    if (upTo(4) == 0) due("weight " + s + " " + v, x.weight(s, v), p.weight(s, v));
    due("about " + bed + " " + what, x.about(bed, what), p.about(bed, what));
  }

  private void odds() {
    int s = pick(4), bed = pick(8);
    due("explains " + s + " " + bed, x.explains(s, bed), p.explains(s, bed));
    due("chance " + s + " " + bed, x.chance(s, bed, true), p.chance(s, bed, true));
    due("chance below " + s + " " + bed, x.chance(s, bed, false), p.chance(s, bed, false));
    due("odds " + s, x.odds(s, true), p.odds(s, true));
    due("odds below " + s, x.odds(s, false), p.odds(s, false));
    due("best", x.best(), p.best());
    due("mover", x.mover(), p.mover());
    due("next", x.next(), p.next());
  }

  private void dates() {
    int i = pick(5) - 1, land = pick(4), bed = pick(8), s = pick(4), k = pick(6);
    due("once", x.once(), p.once());
    due("times", x.times(), p.times());
    due("time " + i, x.time(i), p.time(i));
    due("order " + land, x.order(land), p.order(land));
    due("gap " + bed, x.gap(bed), p.gap(bed));
    due("pole " + s + " " + k, x.pole(s, k), p.pole(s, k));
    due("elsewhere " + s, x.elsewhere(s), p.elsewhere(s));
  }

  private void slots() {
    int slot = pick(2), what = pick(4);
    if (upTo(2) == 0) due("keep " + slot, x.keep(slot), p.keep(slot));
    else due("again " + slot, x.again(slot), p.again(slot));
    due("count " + what, x.count(what), p.count(what));
  }

  private void go() {
    while (calls < CALLS && Due.wrongSoFar() < 40) {
      switch (upTo(11)) {
        case 0: case 1: texts(); break;
        case 2: tellings(); break;
        case 3: case 4: case 5: for (int j = 0; j < 5; j++) earth(); break;
        case 6: case 7: beds(); break;
        case 8: odds(); break;
        case 9: dates(); break;
        default: slots(); break;
      }
    }
  }

  public static void main(String[] args) {
    for (int run = 1; run <= RUNS; run++) new AgainstPlainTest(run).go();
    Due.end("AgainstPlainTest");
  }
}
