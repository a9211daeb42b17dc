import java.math.BigDecimal;
import java.math.BigInteger;
import java.util.ArrayList;
import java.util.HashMap;
import java.util.List;
import java.util.Map;
import java.util.TreeSet;
import java.util.regex.Matcher;
import java.util.regex.Pattern;

/**
 * The document once more, by other means wherever there are some: searches over all that could be, big
 * numbers and regular expressions in place of what the class does. Tests hold the class against it.
 */
final class Plain {
  private static final int UNKNOWN = -1, OUTSIDE = -2, STATE = -3, FULL = -4, NONE = -9;
  private static final Pattern PART = Pattern.compile("L[0-5][0-9][0-9]|F[0-9][0-9]|[RGMVW][0-9]");
  private static final Pattern STORY = Pattern.compile("[0-9][0-9]:0?1?2?3?4?5?(;[0-9][0-9]:0?1?2?3?4?5?)*");

  private String text = "";
  private Map<String, Integer> law = new HashMap<>();
  private final int[][] stories = new int[4][100];
  private List<int[]> beds = new ArrayList<>();
  private int[] weights = {1, 1, 1, 1};
  private final List<List<int[]>> keptBeds = new ArrayList<>(List.of(new ArrayList<>(), new ArrayList<>()));
  private final int[][] keptWeights = {null, null};

  private static boolean in(int v, int low, int high) {
    return low <= v && v <= high;
  }

  // ---- texts

  int write(int n, long v) {
    if (!in(n, 1, 8)) return OUTSIDE;
    if (text.length() + n > 48) return FULL;
    byte[] all = BigInteger.valueOf(v).and(BigInteger.ONE.shiftLeft(64).subtract(BigInteger.ONE)).toByteArray();
    StringBuilder bytes = new StringBuilder();
    for (int i = n; i >= 1; i--) bytes.append((char) (i > all.length ? 0 : all[all.length - i] & 255));
    text += bytes;
    return text.length();
  }

  int wipe() {
    int was = text.length();
    text = "";
    return was;
  }

  /** The PARTS of a LAW, or null if the text is none. */
  private static Map<String, Integer> lawOf(String t) {
    Map<String, Integer> found = new HashMap<>();
    Matcher m = PART.matcher(t);
    int end = 0;
    while (end < t.length()) {
      m.region(end, t.length());
      if (!m.lookingAt()) return null;
      String part = m.group();
      int key = part.charAt(0) == 'L' ? 2 : 1;
      if (found.put(part.substring(0, key), Integer.parseInt(part.substring(key))) != null) return null;
      end = m.end();
    }
    return found;
  }

  private static boolean isStoryText(String t) {
    if (!STORY.matcher(t).matches()) return false;
    int ahead = -1;
    for (String entry : t.split(";")) {
      int round = Integer.parseInt(entry.substring(0, 2));
      if (round <= ahead) return false;
      ahead = round;
    }
    return true;
  }

  private static boolean isText(String t, boolean story) {
    return story ? isStoryText(t) : lawOf(t) != null;
  }

  /** Whether anything of up to so many signs behind it makes it one; three are enough for both kinds. */
  private static boolean canBe(String t, boolean story, int more) {
    if (isText(t, story)) return true;
    if (more == 0) return false;
    for (char c : "0123456789:".toCharArray()) if (canBe(t + c, story, more - 1)) return true;
    return false;
  }

  private static final Map<String, Integer> FAULTS = new HashMap<>();

  int fault(boolean story) {
    return FAULTS.computeIfAbsent(story + text, key -> faultOf(text, story));
  }

  private static int faultOf(String t, boolean story) {
    for (int i = 0; i < t.length(); i++) if (!canBe(t.substring(0, i + 1), story, 3)) return i;
    return isText(t, story) ? NONE : t.length();
  }

  int law() {
    if (fault(false) != NONE) return STATE;
    law = lawOf(text);
    return law.size();
  }

  private int number(String key) {
    return law.getOrDefault(key, 0);
  }

  int lawful(int what) {
    if (!in(what, 0, 11)) return OUTSIDE;
    return number(new String[] {"L0", "L1", "L2", "L3", "L4", "L5", "R", "G", "F", "M", "V", "W"}[what]);
  }

  int story(int story) {
    if (!in(story, 0, 3)) return UNKNOWN;
    if (fault(true) != NONE) return STATE;
    String[] entries = text.split(";");
    int[] ice = new int[100];
    for (String entry : entries) {
      int set = 0;
      for (char band : entry.substring(3).toCharArray()) set += 1 << band - '0';
      for (int r = Integer.parseInt(entry.substring(0, 2)); r < 100; r++) ice[r] = set;
    }
    stories[story] = ice;
    return entries.length;
  }

  int lived(int story, int ice, int air) {
    if (!in(story, 0, 3)) return UNKNOWN;
    if (!in(ice, 0, 63) || !in(air, 0, 99)) return OUTSIDE;
    int white = 0;
    for (int r = 0; r < 100; r++) {
      stories[story][r] = after(ice, air, r) / 100;
      if (stories[story][r] == 63) white++;
    }
    return white;
  }

  int at(int story, int round) {
    if (!in(story, 0, 3)) return UNKNOWN;
    if (!in(round, 0, 99)) return OUTSIDE;
    return stories[story][round];
  }

  // ---- the earth

  private BigDecimal taken(int band, boolean[] ice) {
    int tenths = ice[band] ? 10 - number("R") : 10;
    return BigDecimal.valueOf(number("L" + band)).multiply(BigDecimal.valueOf(tenths));
  }

  private static boolean[] bandsOf(int ice) {
    boolean[] bands = new boolean[6];
    for (int b = 0; b < 6; b++) bands[b] = ice / (1 << b) % 2 == 1;
    return bands;
  }

  private BigDecimal warm(int band, boolean[] ice, int air) {
    BigDecimal sum = taken(band, ice).add(taken(band, ice));
    sum = sum.add(band == 0 ? taken(0, ice) : taken(band - 1, ice));
    sum = sum.add(band == 5 ? taken(5, ice) : taken(band + 1, ice));
    return sum.divide(BigDecimal.valueOf(40)).add(BigDecimal.valueOf((long) number("G") * air));
  }

  int warmth(int band, int ice, int air) {
    if (!in(band, 0, 5)) return UNKNOWN;
    if (!in(ice, 0, 63) || !in(air, 0, 99)) return OUTSIDE;
    return warm(band, bandsOf(ice), air).multiply(BigDecimal.valueOf(40)).intValueExact();
  }

  private int then(int ice, int air) {
    boolean[] had = bandsOf(ice);
    BigDecimal freezes = BigDecimal.valueOf(number("F"));
    BigDecimal melts = BigDecimal.valueOf(number("F") + number("M"));
    int set = 0;
    for (int b = 0; b < 6; b++) {
      BigDecimal w = warm(b, had, air);
      boolean has = had[b];
      if (w.compareTo(freezes) < 0) has = true;
      else if (w.compareTo(melts) >= 0) has = false;
      if (has) set += 1 << b;
    }
    return set;
  }

  private final Map<Integer, Integer> rounds = new HashMap<>();
  private Map<String, Integer> roundsOf = null;

  int round(int ice, int air) {
    if (!in(ice, 0, 63) || !in(air, 0, 99)) return OUTSIDE;
    if (roundsOf != law) {
      rounds.clear();
      roundsOf = law;
    }
    return rounds.computeIfAbsent(100 * ice + air, key -> {
      int newAir = air + number("V");
      for (boolean had : bandsOf(ice)) if (!had) newAir -= number("W");
      return 100 * then(ice, air) + Math.min(99, Math.max(0, newAir));
    });
  }

  int after(int ice, int air, int n) {
    if (!in(ice, 0, 63) || !in(air, 0, 99) || !in(n, 0, 100000)) return OUTSIDE;
    int state = 100 * ice + air;
    for (int i = 0; i < n; i++) state = round(state / 100, state % 100);
    return state;
  }

  int run(int ice, int air, int what) {
    if (!in(ice, 0, 63) || !in(air, 0, 99) || !in(what, 0, 4)) return OUTSIDE;
    List<Integer> met = new ArrayList<>();
    int state = 100 * ice + air;
    while (!met.contains(state)) {
      met.add(state);
      state = round(state / 100, state % 100);
    }
    int lead = met.indexOf(state);
    List<Integer> ring = met.subList(lead, met.size());
    switch (what) {
      case 0: return lead;
      case 1: return ring.size();
      case 2: return (int) ring.stream().filter(s -> s / 100 == 63).count();
      case 3: return ring.stream().mapToInt(s -> s % 100).min().getAsInt();
      default: return ring.stream().mapToInt(s -> s % 100).max().getAsInt();
    }
  }

  int till(int ice, int air, boolean white) {
    if (!in(ice, 0, 63) || !in(air, 0, 99)) return OUTSIDE;
    int state = 100 * ice + air;
    for (int i = 0; i < 7000; i++) {
      if (state / 100 == 63 == white) return i;
      state = round(state / 100, state % 100);
    }
    return NONE;
  }

  private List<Integer> allRests(int air) {
    List<Integer> found = new ArrayList<>();
    for (int ice = 0; ice < 64; ice++) if (then(ice, air) == ice) found.add(ice);
    return found;
  }

  int rests(int air) {
    return in(air, 0, 99) ? allRests(air).size() : OUTSIDE;
  }

  int rest(int air, int i) {
    if (!in(air, 0, 99)) return OUTSIDE;
    List<Integer> all = allRests(air);
    return in(i, 0, all.size() - 1) ? all.get(i) : NONE;
  }

  int settle(int ice, int air) {
    if (!in(ice, 0, 63) || !in(air, 0, 99)) return OUTSIDE;
    int now = ice;
    for (int i = 0; i < 200; i++) now = then(now, air);
    return then(now, air) == now ? now : NONE;
  }

  /** ICE at each AIR of a CURVE, that from which it starts first; NONE where it does not SETTLE. */
  private List<Integer> bend(int ice, int air, int last) {
    List<Integer> all = new ArrayList<>(List.of(ice));
    int at = air;
    while (true) {
      int now = settle(all.get(all.size() - 1), at);
      all.add(now);
      if (now == NONE || at == last) return all;
      at += Integer.signum(last - at);
    }
  }

  private List<Integer> jumpsOf(int ice, int air, int last) {
    List<Integer> bend = bend(ice, air, last);
    List<Integer> found = new ArrayList<>();
    for (int i = 1; i < bend.size(); i++) {
      if (bend.get(i) == NONE) break;
      int change = Integer.bitCount(bend.get(i)) - Integer.bitCount(bend.get(i - 1));
      if (change > 1 || change < -1) found.add(last < air ? air - i + 1 : air + i - 1);
    }
    return found;
  }

  private static boolean isNoCurve(int ice, int air, int last) {
    return !in(ice, 0, 63) || !in(air, 0, 99) || !in(last, 0, 99);
  }

  int jumps(int ice, int air, int last) {
    return isNoCurve(ice, air, last) ? OUTSIDE : jumpsOf(ice, air, last).size();
  }

  int jump(int ice, int air, int last, int i) {
    if (isNoCurve(ice, air, last)) return OUTSIDE;
    List<Integer> all = jumpsOf(ice, air, last);
    return in(i, 0, all.size() - 1) ? all.get(i) : NONE;
  }

  int curve(int ice, int air, int last) {
    if (isNoCurve(ice, air, last)) return OUTSIDE;
    List<Integer> bend = bend(ice, air, last);
    return bend.get(bend.size() - 1);
  }

  int least(boolean strip) {
    for (int air = 0; air < 100; air++) {
      List<Integer> all = allRests(air);
      if (strip ? all.contains(62) : !all.contains(63)) return air;
    }
    return NONE;
  }

  // ---- beds

  int bed(int land, int signs, int old, int young, int needle, int first) {
    if (!in(land, 0, 3) || !in(needle, 0, 5)) return UNKNOWN;
    if (!in(signs, 0, 15) || !in(old, 0, 99) || !in(young, 0, 99) || young < old || !in(first, 0, 10)) return OUTSIDE;
    if (beds.size() == 8) return FULL;
    beds.add(new int[] {land, signs, old, young, needle, first});
    return beds.size() - 1;
  }

  int forget() {
    if (beds.isEmpty()) return STATE;
    beds.remove(beds.size() - 1);
    return beds.size();
  }

  private boolean isBed(int bed) {
    return in(bed, 0, beds.size() - 1);
  }

  private static boolean icy(int[] bed) {
    return bed[1] % 4 != 0;
  }

  private static int slide(int[] bed) {
    boolean[] sign = bandsOf(bed[1]);
    return 2 + (sign[3] ? 4 : 0) - (sign[1] ? 1 : 0) - (sign[2] ? 1 : 0);
  }

  int about(int bed, int what) {
    if (!isBed(bed)) return UNKNOWN;
    if (!in(what, 0, 7)) return OUTSIDE;
    int[] b = beds.get(bed);
    return what == 6 ? slide(b) : what == 7 ? (icy(b) ? 1 : 0) : b[what];
  }

  private int roundsWithIceAt(int story, int[] bed, int band) {
    int found = 0;
    for (int r = bed[2]; r <= bed[3]; r++) if (bandsOf(stories[story][r])[band]) found++;
    return found;
  }

  private boolean may(int story, int[] bed) {
    for (int b = 0; b < 6; b++) if (roundsWithIceAt(story, bed, b) > 0) return true;
    return false;
  }

  int explains(int story, int bed) {
    if (!in(story, 0, 3) || !isBed(bed)) return UNKNOWN;
    int[] b = beds.get(bed);
    if (!icy(b)) return STATE;
    return roundsWithIceAt(story, b, b[4]) > 0 ? 2 : may(story, b) ? 1 : 0;
  }

  private BigDecimal chanceOf(int story, int[] b) {
    BigDecimal first = BigDecimal.valueOf(b[5], 1);
    BigDecimal turned = BigDecimal.ONE.subtract(first);
    BigDecimal slide = BigDecimal.valueOf(slide(b), 1);
    int with = roundsWithIceAt(story, b, b[4]);
    if (icy(b)) {
      return first.multiply(with > 0 ? BigDecimal.ONE : slide).add(turned.multiply(may(story, b) ? BigDecimal.ONE : slide));
    }
    boolean lasts = with == b[3] - b[2] + 1;
    return first.multiply(lasts ? new BigDecimal("0.5") : BigDecimal.ONE).add(turned);
  }

  private static BigInteger whole(BigDecimal d) {
    return d.movePointRight(40).toBigIntegerExact();
  }

  private static long part(BigDecimal above, BigDecimal below, boolean upper) {
    BigInteger a = whole(above), b = whole(below), g = a.gcd(b);
    return (upper ? a : b).divide(g).longValueExact();
  }

  long chance(int story, int bed, boolean upper) {
    if (!in(story, 0, 3) || !isBed(bed)) return UNKNOWN;
    return part(chanceOf(story, beds.get(bed)), BigDecimal.ONE, upper);
  }

  int weight(int story, int v) {
    if (!in(story, 0, 3)) return UNKNOWN;
    if (!in(v, 0, 9)) return OUTSIDE;
    int was = weights[story];
    weights[story] = v;
    return was;
  }

  private BigDecimal share(int story, List<int[]> all) {
    BigDecimal share = BigDecimal.valueOf(weights[story]);
    for (int[] b : all) share = share.multiply(chanceOf(story, b));
    return share;
  }

  private BigDecimal together(List<int[]> all) {
    BigDecimal sum = BigDecimal.ZERO;
    for (int s = 0; s < 4; s++) sum = sum.add(share(s, all));
    return sum;
  }

  long odds(int story, boolean upper) {
    if (!in(story, 0, 3)) return UNKNOWN;
    if (together(beds).signum() == 0) return STATE;
    return part(share(story, beds), together(beds), upper);
  }

  int best() {
    if (together(beds).signum() == 0) return STATE;
    int best = 3;
    for (int s = 2; s >= 0; s--) if (share(s, beds).compareTo(share(best, beds)) >= 0) best = s;
    return best;
  }

  private long millionths(int story, List<int[]> all) {
    if (together(all).signum() == 0) return 0;
    BigInteger above = whole(share(story, all)).multiply(BigInteger.valueOf(1000000));
    return above.divide(whole(together(all))).longValueExact();
  }

  int mover() {
    int best = best();
    if (best < 0) return best;
    long most = -1;
    int found = NONE;
    for (int i = 0; i < beds.size(); i++) {
      List<int[]> others = new ArrayList<>(beds);
      others.remove(i);
      long moved = Math.abs(millionths(best, others) - millionths(best, beds));
      if (moved > most) {
        most = moved;
        found = i;
      }
    }
    return found;
  }

  int next() {
    BigDecimal all = together(beds);
    if (all.signum() == 0) return STATE;
    BigDecimal half = all.divide(BigDecimal.valueOf(2));
    BigDecimal nearest = null;
    int found = NONE;
    for (int i = 0; i < 60; i++) {
      BigDecimal with = BigDecimal.ZERO;
      for (int s = 0; s < 4; s++) if (bandsOf(stories[s][i % 10 * 10])[i / 10]) with = with.add(share(s, beds));
      BigDecimal away = with.subtract(half).abs();
      if (nearest == null || away.compareTo(nearest) < 0) {
        nearest = away;
        found = i;
      }
    }
    return found;
  }

  // ---- dates, lands

  private List<int[]> icyBeds() {
    List<int[]> found = new ArrayList<>();
    for (int[] b : beds) if (icy(b)) found.add(b);
    return found;
  }

  int once() {
    if (icyBeds().isEmpty()) return NONE;
    for (int r = 0; r < 100; r++) {
      int at = r;
      if (icyBeds().stream().allMatch(b -> b[2] <= at && at <= b[3])) return r;
    }
    return NONE;
  }

  /** Whether so many ROUNDS, none ahead of low, meet all of the BEDS that are left (bits). */
  private static boolean canMeet(List<int[]> icy, int left, int many, int low, Map<Integer, Boolean> known) {
    if (left == 0) return true;
    if (many == 0) return false;
    int key = (left * 16 + many) * 128 + low;
    Boolean before = known.get(key);
    if (before != null) return before;
    boolean can = false;
    for (int r = low; r < 100 && !can; r++) can = canMeet(icy, left & ~met(icy, r), many - 1, r + 1, known);
    known.put(key, can);
    return can;
  }

  private static int met(List<int[]> icy, int round) {
    int met = 0;
    for (int i = 0; i < icy.size(); i++) if (in(round, icy.get(i)[2], icy.get(i)[3])) met |= 1 << i;
    return met;
  }

  private List<Integer> allTimes() {
    Map<Integer, Boolean> known = new HashMap<>();
    List<int[]> icy = icyBeds();
    int left = (1 << icy.size()) - 1;
    int many = 0;
    while (!canMeet(icy, left, many, 0, known)) many++;
    List<Integer> found = new ArrayList<>();
    for (; many > 0; many--) {
      int r = 99;
      while (!canMeet(icy, left & ~met(icy, r), many - 1, r + 1, known)) r--;
      found.add(r);
      left &= ~met(icy, r);
    }
    return found;
  }

  int times() {
    return allTimes().size();
  }

  int time(int i) {
    List<Integer> all = allTimes();
    return in(i, 0, all.size() - 1) ? all.get(i) : NONE;
  }

  /** ROUNDS that the last of these BEDS may have, if those below it have theirs. */
  private static TreeSet<Integer> upTo(List<int[]> pile) {
    TreeSet<Integer> may = new TreeSet<>(List.of(0));
    for (int[] b : pile) {
      TreeSet<Integer> then = new TreeSet<>();
      for (int r = b[2]; r <= b[3]; r++) if (may.floor(r) != null) then.add(r);
      may = then;
    }
    return may;
  }

  private List<int[]> pile(int land) {
    List<int[]> found = new ArrayList<>();
    for (int[] b : beds) if (b[0] == land) found.add(b);
    return found;
  }

  int order(int land) {
    if (!in(land, 0, 3)) return UNKNOWN;
    return upTo(pile(land)).isEmpty() ? 0 : 1;
  }

  int gap(int bed) {
    if (!isBed(bed)) return UNKNOWN;
    int[] b = beds.get(bed);
    List<int[]> pile = pile(b[0]);
    int place = pile.indexOf(b);
    if (place == 0 || upTo(pile).isEmpty()) return STATE;
    int most = NONE;
    for (int low : upTo(pile.subList(0, place))) {
      for (int high = Math.max(low, b[2]); high <= b[3]; high++) {
        List<int[]> rest = new ArrayList<>(pile.subList(place + 1, pile.size()));
        rest.add(0, new int[] {0, 0, high, high, 0, 0});
        if (!upTo(rest).isEmpty()) most = Math.max(most, high - low);
      }
    }
    return most;
  }

  int pole(int story, int k) {
    if (!in(story, 0, 3)) return UNKNOWN;
    if (!in(k, 0, 5)) return OUTSIDE;
    int found = 0;
    for (int[] b : icyBeds()) {
      int band = k - b[4] >= 0 ? k - b[4] : b[4] - k;
      if (roundsWithIceAt(story, b, band) > 0) found++;
    }
    return found;
  }

  int elsewhere(int story) {
    if (!in(story, 0, 3)) return UNKNOWN;
    int best = 5;
    for (int k = 4; k >= 0; k--) if (pole(story, k) >= pole(story, best)) best = k;
    return best;
  }

  // ---- slots

  int keep(int slot) {
    if (!in(slot, 0, 1)) return UNKNOWN;
    keptBeds.set(slot, new ArrayList<>(beds));
    keptWeights[slot] = weights.clone();
    return beds.size();
  }

  int again(int slot) {
    if (!in(slot, 0, 1)) return UNKNOWN;
    if (keptWeights[slot] == null) return STATE;
    beds = new ArrayList<>(keptBeds.get(slot));
    weights = keptWeights[slot].clone();
    return beds.size();
  }

  int count(int what) {
    if (!in(what, 0, 3)) return OUTSIDE;
    return what == 0 ? text.length() : what == 1 ? beds.size() : what == 2 ? icyBeds().size()
        : weights[0] + weights[1] + weights[2] + weights[3];
  }
}
