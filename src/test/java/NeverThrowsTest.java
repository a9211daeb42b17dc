/** No numbers, in no state, make a call throw; what a refused call answers is one of the refusals, and changes nothing. */
public final class NeverThrowsTest {
  private static final int[] EDGES = {Integer.MIN_VALUE, Integer.MIN_VALUE + 1, -100, -9, -1, 0, 1, 2, 3, 4, 5, 6, 7, 8, 9, 10, 11,
      12, 15, 16, 62, 63, 64, 98, 99, 100, 6399, 6400, 100000, 100001, 1 << 30, Integer.MAX_VALUE - 1, Integer.MAX_VALUE};

  private long seed = 20261118;

  private int upTo(int n) {
    seed = seed * 6364136223846793005L + 1442695040888963407L;
    return (int) ((seed >>> 33) % n);
  }

  private int any() {
    return EDGES[upTo(EDGES.length)];
  }

  private long call(IceAtTheMiddle x, int which) {
    int a = any(), b = any(), c = any(), d = any(), e = any(), f = any();
    boolean yes = upTo(2) == 0;
    switch (which) {
      case 0: return x.write(a, seed);
      case 1: return x.wipe();
      case 2: return x.fault(yes);
      case 3: return x.law();
      case 4: return x.lawful(a);
      case 5: return x.story(a);
      case 6: return x.lived(a, b, c);
      case 7: return x.at(a, b);
      case 8: return x.warmth(a, b, c);
      case 9: return x.round(a, b);
      case 10: return x.after(a, b, c);
      case 11: return x.run(a, b, c);
      case 12: return x.till(a, b, yes);
      case 13: return x.rests(a);
      case 14: return x.rest(a, b);
      case 15: return x.settle(a, b);
      case 16: return x.jumps(a, b, c);
      case 17: return x.jump(a, b, c, d);
      case 18: return x.curve(a, b, c);
      case 19: return x.least(yes);
      case 20: return x.bed(a, b, c, d, e, f);
      case 21: return x.forget();
      case 22: return x.about(a, b);
      case 23: return x.explains(a, b);
      case 24: return x.chance(a, b, yes);
      case 25: return x.weight(a, b);
      case 26: return x.odds(a, yes);
      case 27: return x.best();
      case 28: return x.mover();
      case 29: return x.next();
      case 30: return x.once();
      case 31: return x.times();
      case 32: return x.time(a);
      case 33: return x.order(a);
      case 34: return x.gap(a);
      case 35: return x.pole(a, b);
      case 36: return x.elsewhere(a);
      case 37: return x.keep(a);
      case 38: return x.again(a);
      default: return x.count(a);
    }
  }

  private IceAtTheMiddle someObject() {
    IceAtTheMiddle x = Due.withLaw("L040L138L234L328L420L514R4G1F22M2V3W1");
    Due.tell(x, 1, "10:0;50:012345;60:");
    x.lived(2, 63, 0);
    int beds = upTo(9);
    for (int i = 0; i < beds; i++) x.bed(upTo(4), upTo(16), upTo(50), 50 + upTo(50), upTo(6), upTo(11));
    return x;
  }

  private void goOn() {
    IceAtTheMiddle x = someObject();
    for (int i = 0; i < 450; i++) {
      long answer = call(x, upTo(40));
      Due.holds("an answer is none below -9: " + answer, answer >= -9);
    }
  }

  /** Two objects of the same calls; one more call on the first of them, and they must still look alike if it was refused. */
  private void refused() {
    long begin = seed;
    IceAtTheMiddle other = someObject();
    seed = begin;
    IceAtTheMiddle x = someObject();
    int which = upTo(40);
    long answer = call(x, which);
    boolean changes = which < 2 || which == 3 || which == 5 || which == 6 || which == 20 || which == 21 || which == 25 || which == 38;
    boolean mayChange = changes && answer >= 0;
    Due.holds("call " + which + " answered " + answer + " and changed nothing", mayChange || Due.picture(x).equals(Due.picture(other)));
  }

  public static void main(String[] args) {
    NeverThrowsTest t = new NeverThrowsTest();
    for (int i = 0; i < 300; i++) t.goOn();
    for (int i = 0; i < 4000; i++) t.refused();
    Due.end("NeverThrowsTest");
  }
}
