import java.io.IOException;
import java.nio.file.Files;
import java.nio.file.Path;
import java.util.HashSet;
import java.util.Map;
import java.util.Set;
import java.util.TreeMap;
import java.util.regex.Matcher;
import java.util.regex.Pattern;

/**
 * Which sentence of the document is under test, and which words of the document have been so far: a sentence
 * is quoted as it stands there, so that none can be tested that does not, and none be left out unseen.
 */
final class Edge {
  static final int UNKNOWN = -1, OUTSIDE = -2, STATE = -3, FULL = -4, NONE = -9;
  static final int[] FAR = {Integer.MIN_VALUE, Integer.MIN_VALUE + 1, -1, Integer.MAX_VALUE - 1, Integer.MAX_VALUE};
  private static final int PROMISES = 41;
  /** No LAW keeps ICE from a REST while AIR is held (EarthEdges tells why), so these two can't be shown. */
  private static final Set<String> NEVER_ANSWERED = Set.of("17 NONE", "20 NONE");

  private static final String DOC = folded();
  private static final boolean[] quoted = new boolean[DOC.length()];
  private static final Map<Integer, Set<Long>> answers = new TreeMap<>();
  private static int promise;
  private static String sentence = "";
  private static int duesOfSentence = 1;

  private Edge() {
  }

  private static String folded() {
    try {
      String all = Files.readString(Path.of("../shared/DOC.md"));
      return all.replaceAll("==== [0-9] |```(text|java)?", " ").replaceAll("\\s+", " ");
    } catch (IOException e) {
      throw new IllegalStateException("../shared/DOC.md can't be read", e);
    }
  }

  /** A sentence that stands under the promise's own number. */
  static void promises(int number, String words) {
    begin(number, words, startOf(number), endOf(number));
  }

  /** A sentence that stands ahead of the promises, tested by a call of this promise. */
  static void says(int number, String words) {
    begin(number, words, DOC.indexOf("An object is used"), DOC.indexOf("## Promise 1:"));
  }

  static void due(String call, long got, long want) {
    duesOfSentence++;
    answers.computeIfAbsent(promise, p -> new HashSet<>()).add(want);
    Due.is("promise " + promise + ", \"" + sentence + "\": " + call, got, want);
  }

  private static void begin(int number, String words, int from, int to) {
    Due.holds("it has an answer that is due: " + sentence, duesOfSentence > 0);
    promise = number;
    sentence = words;
    duesOfSentence = 0;
    boolean stands = false;
    for (int at = DOC.indexOf(words, from); at >= 0 && at + words.length() <= to; at = DOC.indexOf(words, at + 1)) {
      stands = true;
      for (int i = at; i < at + words.length(); i++) quoted[i] = true;
    }
    Due.holds("promise " + number + ": the document says so: " + words, stands);
  }

  private static int startOf(int number) {
    return DOC.indexOf("`: ", DOC.indexOf("## Promise " + number + ":")) + 3;
  }

  private static int endOf(int number) {
    return DOC.indexOf("## ", startOf(number));
  }

  /** Each word of the promises, and of what stands ahead of them, has been under test; so has each refusal that is named. */
  static void allWereAsked() {
    Due.holds("it has an answer that is due: " + sentence, duesOfSentence > 0);
    allQuoted("terms", DOC.indexOf("REFUSALS, of"), DOC.indexOf("Ahead of the calls"));
    Pattern refusal = Pattern.compile("\\b(UNKNOWN|OUTSIDE|STATE|FULL|NONE)\\b");
    Map<String, Long> codes = Map.of("UNKNOWN", -1L, "OUTSIDE", -2L, "STATE", -3L, "FULL", -4L, "NONE", -9L);
    for (int number = 1; number <= PROMISES; number++) {
      allQuoted("promise " + number, startOf(number), endOf(number));
      Matcher m = refusal.matcher(DOC.substring(startOf(number), endOf(number)));
      while (m.find()) {
        boolean shown = answers.getOrDefault(number, Set.of()).contains(codes.get(m.group()));
        Due.holds("promise " + number + " is shown to answer " + m.group(), shown || NEVER_ANSWERED.contains(number + " " + m.group()));
      }
    }
  }

  private static void allQuoted(String what, int from, int to) {
    StringBuilder left = new StringBuilder();
    for (int i = from; i < to; i++) if (!quoted[i]) left.append(DOC.charAt(i));
    Due.holds(what + ": no test for: " + left, !Pattern.compile("[A-Za-z0-9]").matcher(left).find());
  }
}
