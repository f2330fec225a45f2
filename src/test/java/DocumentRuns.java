import java.io.IOException;
import java.lang.reflect.InvocationTargetException;
import java.lang.reflect.Method;
import java.nio.file.Files;
import java.nio.file.Path;
import java.util.ArrayList;
import java.util.HashMap;
import java.util.List;
import java.util.Map;
import java.util.regex.Matcher;
import java.util.regex.Pattern;

/**
 * How the tests of sentences are done. Each test names its promise, tells the sentence in the document's own words, and
 * has runs of calls on new objects in the form of the document's examples. A run with refused calls is done a second
 * time without them: nothing that can be asked behind it may tell the two apart.
 */
abstract class DocumentRuns {
  static final int MOST_CALLS = 512;
  static final String CHANGES_NOTHING = "A method that throws an exception changes nothing.";
  static final String FIRST_ONE = "If several exceptions apply, the one that is documented first is thrown.";
  static final String NO_SHAFT = "Throws `IndexOutOfBoundsException` if there is no such shaft";
  static final String NO_SHAFT_EITHER = NO_SHAFT + ", for either";
  static final String NO_LINK = "Throws `IndexOutOfBoundsException` if there is no such link";
  static final String NO_CAM = "Throws `IndexOutOfBoundsException` if there is no such cam";
  static final String NO_DRUM = "Throws `IndexOutOfBoundsException` if there is no such drum";
  static final String NOT_WHOLE = "Throws `UnsupportedOperationException` if it is not whole";
  static final String OUT_OF_RANGE = "Throws `IllegalArgumentException` if it is out of range";
  static final String NUMBER_OUT = "Throws `IllegalArgumentException` if a number is out of range";
  static final String NO_TRIANGLE = "Throws `NoSuchElementException` if there is no such triangle";
  static final String LOWEST_TERMS =
      "Fractions are in lowest terms, with an upper number, perhaps below 0, and a lower one above 0; 0 is 0 and 1.";
  static final int[] BAD_NUMBERS = {Integer.MIN_VALUE, Integer.MAX_VALUE};

  static final String EXAMPLES = "Examples. Each one begins with a new object.";

  private static String written;
  private static String document;
  static final Map<Integer, List<String>> cited = new HashMap<>();
  static int tests;
  static int wrong;

  // Runs that begin in the same way

  static String shop(int shafts) { return "shaft();".repeat(shafts); }

  /** A shop with one link of each kind, all from the shaft 0, but for the planets' ring, the shaft 1. */
  static String shopOfKinds() {
    return shop(8) + "link('g',0,2,6,6) = 0; link('i',0,3,6,6) = 1; link('v',0,4,3,0) = 2; link('r',0,5,3,0) = 3; link('k',0,6,0,0) = 4;"
        + "planets(0,1,7,6,6) = 5;";
  }

  /** Shafts that all turn as the first one does. */
  static String shopOfClutches(int links) {
    StringBuilder all = new StringBuilder(shop(links + 1));
    for (int i = 1; i <= links; i++) all.append("link('k',0," + i + ",0,0);");
    return all.toString();
  }

  /** 14 shafts, 8 cams and 4 drums, links of each kind, one of them broken and one let go, turned on both sides. */
  static String fullShop() {
    return shop(14) + "link('g',0,3,12,24) = 0; link('i',3,4,10,6) = 1; link('v',4,5,4,0) = 2; link('r',0,6,5,0) = 3;"
        + "link('k',0,7,0,0) = 4; planets(3,1,8,10,20) = 5; link('k',1,9,0,0) = 6; link('g',2,10,7,11) = 7; link('i',10,11,6,30) = 8;"
        + "slack(0,10); slack(5,99); slack(7,3); life(0,999); life(7,1); turn(2,48); isBroken(7) = true; engage(6,false); cam(0); cam(3);"
        + "cam(4); cam(13); cam(13); cam(8); cam(8); cam(8); segment(0,6,12,'u'); segment(0,12,30,'p'); segment(0,6,0,'p'); wish(0,0,0);"
        + "wish(0,1,99); segment(1,10,5,'u'); wish(2,0,10); wish(2,8,42); wish(7,5,5); drum(4); drum(0); drum(13); drum(8);"
        + "pin(0,3,2,true); pin(0,23,7,true); pin(1,0,0,true); pin(3,1,1,true); turn(0,31); turn(1,-7);";
  }

  /** The call with each of these numbers in place of the sign #, each time refused with the exception. */
  static String refused(String call, String exception, int... numbers) {
    StringBuilder all = new StringBuilder();
    for (int n : numbers) all.append(call.replace("#", String.valueOf(n))).append(" throws ").append(exception).append(';');
    return all.toString();
  }

  /** Likewise, with the least and the greatest int too. */
  static String refusedBad(String call, String exception, int... numbers) {
    return refused(call, exception, numbers) + refused(call, exception, BAD_NUMBERS);
  }

  static String pinsOfTrack(int drum, int track) {
    StringBuilder all = new StringBuilder();
    for (int part = 0; part < 24; part++) all.append("pin(" + drum + "," + part + "," + track + ",true) = false;");
    return all.toString();
  }

  /** The greatest lower number that planets can lead to: seven sums of teeth without a common part. */
  static String manyPlanets() {
    return shop(9) + "planets(0,1,2,29,30); planets(0,1,3,23,30); planets(0,1,4,17,30); planets(0,1,5,13,30); planets(2,3,6,11,30);"
        + "planets(4,5,7,7,30); planets(6,7,8,6,25);";
  }

  // How a test is done

  static final String[] PAIRS = {"place", "ratio", "worn", "slackOf", "height", "steep", "limit", "angle"};
  static final int[] OVERS = {9, 11, 15, 19, 24, 26, 34, 36};
  static final Map<String, String> EXCEPTIONS = Map.of("Index", "IndexOutOfBoundsException", "Argument", "IllegalArgumentException",
      "Unsupported", "UnsupportedOperationException", "State", "IllegalStateException", "Missing", "NoSuchElementException",
          "Arithmetic", "ArithmeticException");
  static final Pattern CALL = Pattern.compile("(\\w+)\\(([^)]*)\\)(?: = (\\S+)| throws (\\w+))?");
  static final Map<String, Method> methods = new HashMap<>();

  /** A call as a run tells it; the answer that is due is null where any one will do. */
  static final class Call {
    final Method method;
    final Object[] args;
    final String due;
    final boolean refused;
    final String text;

    Call(String name, String[] words, String due, boolean refused) {
      method = methodOf(name);
      args = new Object[words.length];
      for (int i = 0; i < words.length; i++) args[i] = valueOf(words[i].trim());
      this.due = due;
      this.refused = refused;
      text = name + "(" + String.join(", ", words) + ")";
    }

    private static Object valueOf(String word) {
      if (word.equals("true") || word.equals("false")) return word.equals("true");
      if (word.startsWith("char ")) return (char) Integer.parseInt(word.substring(5));
      if (word.startsWith("'")) return word.charAt(1);
      return Integer.parseInt(word);
    }

    /** The answer, or the exception; if asked for, one that the machine threw, not the class itself, is told apart. */
    String answerOf(Linkwright x, boolean isThrowerTold) {
      try {
        return String.valueOf(method.invoke(x, args));
      } catch (InvocationTargetException e) {
        String thrown = "throws " + e.getCause().getClass().getSimpleName();
        return !isThrowerTold || isThrownByTheClass(e.getCause()) ? thrown : thrown + " by the machine";
      } catch (IllegalAccessException e) {
        throw new AssertionError(e);
      }
    }

    private static boolean isThrownByTheClass(Throwable thrown) {
      StackTraceElement[] trace = thrown.getStackTrace();
      return trace.length > 0 && trace[0].getClassName().startsWith("Linkwright");
    }
  }

  static Method methodOf(String name) {
    if (methods.isEmpty()) {
      for (Method one : Linkwright.class.getDeclaredMethods()) methods.put(one.getName(), one);
    }
    if (!methods.containsKey(name)) throw new AssertionError("no method " + name);
    return methods.get(name);
  }

  /** The calls of a run; place(1) = 1/2 stands for both shows, or for the one that the promise is about. */
  static List<Call> callsOf(int promise, String run) {
    List<Call> calls = new ArrayList<>();
    for (String part : run.split(";")) {
      if (part.isBlank()) continue;
      Matcher m = CALL.matcher(part.trim());
      if (!m.matches()) throw new AssertionError("no call: " + part);
      String[] words = m.group(2).isBlank() ? new String[0] : m.group(2).split(",");
      String due = m.group(4) != null ? "throws " + EXCEPTIONS.getOrDefault(m.group(4), m.group(4)) : m.group(3);
      if (due != null && due.startsWith("'")) due = due.substring(1, 2);
      int pair = List.of(PAIRS).indexOf(m.group(1));
      if (pair < 0) {
        calls.add(new Call(m.group(1), words, due, m.group(4) != null));
        continue;
      }
      String[] halves = m.group(4) != null ? new String[] {due, due} : due.split("/");
      if (promise != OVERS[pair] + 1) calls.add(new Call(PAIRS[pair] + "Over", words, halves[0], m.group(4) != null));
      if (promise != OVERS[pair]) calls.add(new Call(PAIRS[pair] + "Under", words, halves[1], m.group(4) != null));
    }
    return calls;
  }

  static void pair(int promise, String sentence, String... runs) {
    check(promise, sentence, runs);
    check(promise + 1, sentence, runs);
  }

  static void check(int promise, String sentence, String... runs) {
    tests++;
    cited.computeIfAbsent(promise, p -> new ArrayList<>()).add(plain(sentence));
    if (!partOf(document, promise).contains(plain(sentence)) && !commonPart().contains(plain(sentence))) {
      fault(promise, sentence, "is not what the document says");
    }
    for (String run : runs) {
      List<Call> calls = callsOf(promise, run);
      answersAreDue(promise, sentence, calls);
      refusedCallsChangeNothing(promise, sentence, calls);
    }
  }

  static void fault(int promise, String sentence, String what) {
    wrong++;
    if (wrong <= 60) System.out.println("promise " + promise + ", \"" + sentence + "\": " + what);
  }

  static void answersAreDue(int promise, String sentence, List<Call> calls) {
    if (calls.size() > MOST_CALLS) fault(promise, sentence, "a run has " + calls.size() + " calls");
    Linkwright x = new Linkwright();
    for (int i = 0; i < calls.size(); i++) {
      Call one = calls.get(i);
      String got = one.answerOf(x, true);
      boolean good = one.due == null ? !got.startsWith("throws ") : got.equals(one.due);
      if (!good) fault(promise, sentence, "call " + (i + 1) + ", " + one.text + " answered " + got + ", due is " + one.due);
    }
  }

  /** Does the run with and without its refused calls, and asks all that can be asked behind both. */
  static void refusedCallsChangeNothing(int promise, String sentence, List<Call> calls) {
    List<Call> taken = new ArrayList<>();
    for (Call one : calls) if (!one.refused) taken.add(one);
    if (taken.size() == calls.size()) return;
    for (List<Call> probe : probes()) {
      int room = Math.max(0, Math.min(probe.size(), MOST_CALLS - calls.size()));
      List<Call> asked = probe.subList(0, room);
      List<String> with = lastAnswers(calls, asked);
      List<String> without = lastAnswers(taken, asked);
      for (int i = 0; i < room; i++) {
        if (!with.get(i).equals(without.get(i))) {
          fault(promise, sentence, "a refused call changed " + asked.get(i).text + " from " + without.get(i) + " to " + with.get(i));
          return;
        }
      }
    }
  }

  static List<String> lastAnswers(List<Call> first, List<Call> then) {
    Linkwright x = new Linkwright();
    for (Call one : first) one.answerOf(x, false);
    List<String> answers = new ArrayList<>();
    for (Call one : then) answers.add(one.answerOf(x, false));
    return answers;
  }

  static List<List<Call>> probes;

  /** Groups of calls that show all that an object holds; some of them change it, so each is done on objects of its own. */
  static List<List<Call>> probes() {
    if (probes == null) {
      probes = new ArrayList<>();
      probe(shows());
      probe(each(14, each(14, "ratioOver(#,@)", '@'), '#'));
      probe(each(14, "ratioUnder(#,0);ratioUnder(#,1);ratioUnder(#,2)", '#'));
      probe(each(13, "engage(#,true);life(#,5);slack(#,5);repair(#)", '#'));
      probe(each(8, "clear(#)", '#') + "shaft();cam(0);drum(0);isSound()");
      probe(each(8, each(24, "wish(#,@,-1)", '@'), '#'));
      probe(each(8, "make(#,'u',99);heightOver(#);heightUnder(#);steepOver(#);clear(#);segment(#,1,1,'u')", '#'));
      for (int drum = 0; drum < 4; drum++) probe(each(24, each(8, "pin(" + drum + ",#,@,true)", '@'), '#'));
      probe(each(14, "turn(#,5);isSound()", '#') + shows());
      probe(each(14, "turn(#,-48);turn(#,48);turn(#,48)", '#') + shows());
      probe(each(14, "link('r',0,#,24,0)", '#') + each(14, "driver(#);turn(#,11)", '#') + "checksum();freedom();isSound()");
      probe(each(14, "planets(0,1,#,7,9);driver(#)", '#') + "turn(1,3);checksum();freedom();isSound()");
    }
    return probes;
  }

  static void probe(String run) { probes.add(callsOf(0, run)); }

  static String shows() {
    return each(14, "placeOver(#);placeUnder(#);driver(#);slackOfOver(#);slackOfUnder(#)", '#')
        + each(13, "wornOver(#);wornUnder(#);isBroken(#)", '#')
        + each(8, "heightOver(#);heightUnder(#);steepOver(#);steepUnder(#)", '#')
        + each(4, each(8, "struck(#,@)", '@'), '#')
        + "freedom();checksum();drivenShare();meanWorn();isSound()";
  }

  static String each(int count, String run, char sign) {
    StringBuilder all = new StringBuilder();
    for (int i = 0; i < count; i++) all.append(run.replace(String.valueOf(sign), String.valueOf(i))).append(';');
    return all.toString();
  }

  // Against the document

  private static final Pattern TITLE = Pattern.compile("[A-Z][a-z]+( and [a-z]+)?");

  static void open(Path root) throws IOException {
    written = Files.readString(root.resolve("../shared/DOC.md"));
    document = plain(written);
  }

  static String written() { return written; }

  static String plain(String text) { return text.replaceAll("\\s+", " ").trim(); }

  static String between(String text, String from, String to) {
    int start = text.indexOf(from) + from.length();
    return text.substring(start, text.indexOf(to, start));
  }

  private static String partOf(String text, int promise) {
    return between(text, "## Promise " + promise + ":", promise < 43 ? "## Promise " + (promise + 1) + ":" : "## Not promised");
  }

  private static String commonPart() {
    return between(document, "## What it is ", "## The public face") + between(document, "## Terms ", EXAMPLES);
  }

  /** What a promise says, line by line, without its head. */
  private static List<String> linesOf(int promise) {
    List<String> lines = new ArrayList<>();
    for (String line : partOf(written, promise).split("\n")) {
      boolean isHead = lines.isEmpty() && !line.startsWith("`");
      if (!isHead && !line.isBlank()) lines.add(plain(line.replaceFirst("^- |^`[^`]*\\)[^`]*`: ", "")));
    }
    return lines;
  }

  /** What the document says ahead of its promises: parts of sentences between stops, colons and semicolons. */
  private static List<String> clauses() {
    List<String> clauses = new ArrayList<>();
    for (String one : commonPart().split("(?<=[.;:]) ?")) {
      String clause = one.replaceFirst("[.;:]$", "").replaceFirst("^and ", "").trim();
      if (!TITLE.matcher(clause).matches()) clauses.add(clause);
    }
    return clauses;
  }

  private static boolean isQuoted(List<String> quotes, String words) {
    for (String one : quotes) if (one.contains(words)) return true;
    return false;
  }

  /** Each line of each promise, and each clause ahead of the promises, has a test that quotes it. */
  static void eachSentenceIsQuoted() {
    List<String> all = new ArrayList<>();
    for (int p = 1; p <= 43; p++) {
      List<String> here = cited.getOrDefault(p, List.of());
      all.addAll(here);
      for (String line : linesOf(p)) if (!isQuoted(here, line)) fault(p, line, "has no test of its own");
      int exceptions = partOf(document, p).split("Throws `").length - 1;
      if (exceptions > 0 && !here.contains(CHANGES_NOTHING)) fault(p, CHANGES_NOTHING, "has no test of its own");
      if (exceptions > 1 && !here.contains(FIRST_ONE)) fault(p, FIRST_ONE, "has no test of its own");
    }
    for (String clause : clauses()) if (!isQuoted(all, clause)) fault(0, clause, "has no test of its own");
  }
}
