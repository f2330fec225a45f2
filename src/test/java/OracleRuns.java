import java.math.BigInteger;
import java.util.ArrayList;
import java.util.HashMap;
import java.util.List;
import java.util.Map;
import java.util.NoSuchElementException;
import java.util.Random;
import java.util.function.Supplier;

/**
 * Long runs of calls, each answered by Linkwright and by a plain model with unbounded fractions that is written
 * after the document alone. The calls are drawn by fixed seeds, so that every run is the same each time.
 */
public final class OracleRuns {
  private static int wrong = 0;

  public static void main(String[] args) {
    for (int seed = 1; seed <= 300; seed++) {
      new Run(seed).play(510);
    }
    longPlanets();
    fastGears();
    allTeeth();
    manyBars();
    System.out.println(wrong == 0 ? "all answers are as due" : wrong + " answers are not as due");
    if (wrong != 0) System.exit(1);
  }

  private static void due(String where, String call, String got, String want) {
    if (!got.equals(want)) {
      wrong++;
      if (wrong < 40) System.out.println(where + ": " + call + " answered " + got + ", due is " + want);
    }
  }

  /** Tells an answer, or the exception that was thrown by the class itself rather than by the machine. */
  private static String answerOf(Supplier<Object> call) {
    try {
      return String.valueOf(call.get());
    } catch (RuntimeException e) {
      StackTraceElement[] trace = e.getStackTrace();
      String top = trace.length == 0 ? "?" : trace[0].getClassName();
      boolean own = top.startsWith("Linkwright") || top.startsWith("OracleRuns");
      return "throws " + e.getClass().getSimpleName() + (own ? "" : " by the machine at " + top);
    }
  }

  // Runs that lead to the greatest numbers

  private static void longPlanets() {
    int[][] sums = {{29, 30}, {23, 30}, {17, 30}, {13, 30}, {11, 30}, {7, 30}, {6, 25}};
    Run run = new Run(-1);
    for (int i = 0; i < 9; i++) run.call("shaft");
    run.call("planets", 0, 1, 2, sums[0][0], sums[0][1]);
    run.call("planets", 0, 1, 3, sums[1][0], sums[1][1]);
    run.call("planets", 0, 1, 4, sums[2][0], sums[2][1]);
    run.call("planets", 0, 1, 5, sums[3][0], sums[3][1]);
    run.call("planets", 2, 3, 6, sums[4][0], sums[4][1]);
    run.call("planets", 4, 5, 7, sums[5][0], sums[5][1]);
    run.call("planets", 6, 7, 8, sums[6][0], sums[6][1]);
    for (int i = 0; i < 7; i++) run.call("slack", i, 99 - i);
    run.call("drum", 8);
    run.call("pin", 0, 3, 1, true);
    for (int i = 0; i < 400; i++) run.call("turn", i % 3 == 0 ? 1 : 0, i % 7 == 0 ? -47 : 48);
    run.compareAll();
  }

  private static void fastGears() {
    Run run = new Run(-2);
    for (int i = 0; i < 9; i++) run.call("shaft");
    run.call("link", 'g', 0, 1, 30, 6);
    run.call("link", 'i', 1, 2, 30, 6);
    run.call("link", 'g', 2, 3, 30, 6);
    run.call("link", 'r', 2, 4, 24, 0);
    run.call("link", 'v', 2, 5, 11, 0);
    run.call("link", 'i', 1, 6, 29, 7);
    run.call("link", 'g', 6, 7, 29, 7);
    run.call("planets", 6, 2, 8, 29, 30);
    for (int i = 0; i < 4; i++) run.call("drum", new int[] {3, 5, 7, 8}[i]);
    for (int i = 0; i < 96; i++) run.call("pin", i / 24, i % 24, i % 7, true);
    for (int i = 0; i < 350; i++) run.call("turn", 0, i % 9 == 0 ? -48 : 48);
    run.compareAll();
  }

  private static void allTeeth() {
    Run run = new Run(-3);
    Random random = new Random(3);
    for (int i = 0; i < 500; i++) {
      int over = 1 + random.nextInt(i % 2 == 0 ? 60 : 9999);
      int under = 1 + random.nextInt(i % 2 == 0 ? 60 : 9999);
      run.call("teeth", over, under, true);
      run.call("teeth", over, under, false);
      run.call("pairs", over, under);
    }
  }

  private static void manyBars() {
    Run run = new Run(-4);
    Random random = new Random(4);
    for (int i = 0; i < 20000; i++) {
      int most = i % 2 == 0 ? 7 : 999;
      Object[] bars = new Object[4];
      for (int k = 0; k < 4; k++) bars[k] = 1 + random.nextInt(most);
      boolean is = random.nextBoolean();
      run.call("bars", bars);
      for (String name : new String[] {"limitOver", "limitUnder", "angleOver", "angleUnder"}) {
        run.call(name, bars[0], bars[1], bars[2], bars[3], is);
      }
    }
  }

  /** One run of calls on a Linkwright and on a model. */
  private static final class Run {
    final String where;
    final Random random;
    final Linkwright x = new Linkwright();
    final Model m = new Model();

    Run(int seed) {
      where = "run of seed " + seed;
      random = new Random(seed);
    }

    void play(int calls) {
      int most = 2 + random.nextInt(13);
      for (int i = 0; i < most; i++) call("shaft");
      int ready = random.nextInt(14);
      for (int i = 0; i < ready; i++) anyLink();
      for (int i = most + ready; i < calls - 60; i++) anyCall();
      compareAll();
      call("isSound");
      call("checksum");
    }

    int some(int least, int most) {
      int chance = random.nextInt(60);
      if (chance == 0) return least - 1;
      if (chance == 1) return most + 1;
      if (chance == 2) return random.nextBoolean() ? Integer.MIN_VALUE : Integer.MAX_VALUE;
      if (chance < 8) return random.nextBoolean() ? least : most;
      return least + random.nextInt(most - least + 1);
    }

    int someShaft() { return some(0, Math.max(1, m.place.size()) - 1); }

    int someInput() {
      for (int i = 0; i < 20; i++) {
        int shaft = someShaft();
        if (shaft < 0 || shaft >= m.place.size() || m.driverOf(shaft) == null) return shaft;
      }
      return 0;
    }

    int someLink() { return some(0, Math.max(1, m.links.size()) - 1); }
    int someCam() { return some(0, Math.max(1, m.cams.size()) - 1); }
    int someDrum() { return some(0, Math.max(1, m.drums.size()) - 1); }

    void anyLink() {
      char kind = "givrkgivrkp".charAt(random.nextInt(11));
      int a = kind == 'v' ? some(3, 12) : kind == 'r' ? some(3, 24) : kind == 'k' ? some(0, 0) : some(6, 30);
      int b = kind == 'v' || kind == 'r' || kind == 'k' ? some(0, 0) : some(6, 30);
      if (kind == 'p' && random.nextInt(20) != 0) call("planets", someShaft(), someShaft(), someShaft(), a, b);
      else call("link", kind, someShaft(), someShaft(), a, b);
    }

    void anyCall() {
      switch (random.nextInt(24)) {
        case 0: call("engage", someLink(), random.nextBoolean()); break;
        case 1: call("life", someLink(), random.nextInt(4) == 0 ? some(0, 999) : some(0, 9)); break;
        case 2: call("slack", someLink(), some(0, 99)); break;
        case 3: case 4: case 5: case 6: case 7: case 8: case 9: call("turn", someInput(), some(-48, 48)); break;
        case 10: call("repair", someLink()); break;
        case 11: call("cam", someShaft()); break;
        case 12: case 13: call("segment", someCam(), some(1, random.nextInt(3) == 0 ? 24 : 8), some(0, 99), law()); break;
        case 14: if (random.nextInt(4) == 0) call("clear", someCam()); break;
        case 15: call("wish", someCam(), random.nextInt(3) == 0 ? 0 : some(0, 23), some(-1, 99)); break;
        case 16: call("make", someCam(), law(), some(1, 99)); break;
        case 17: call("drum", someShaft()); break;
        case 18: call("pin", someDrum(), some(0, 23), some(0, 7), random.nextInt(4) != 0); break;
        case 19: if (random.nextInt(8) == 0) call("shaft"); else anyLink(); break;
        case 20: show(); break;
        case 21: show(); break;
        case 22: call("isSound"); call("turn", someShaft(), some(-48, 48)); break;
        default: show(); break;
      }
    }

    char law() { return "upupupupupx".charAt(random.nextInt(11)); }

    void show() {
      String[] ofShaft = {"placeOver", "placeUnder", "slackOfOver", "slackOfUnder", "driver"};
      String[] ofLink = {"wornOver", "wornUnder", "isBroken"};
      String[] ofCam = {"heightOver", "heightUnder", "steepOver", "steepUnder"};
      String[] ofAll = {"freedom", "checksum", "drivenShare", "meanWorn", "isSound"};
      switch (random.nextInt(6)) {
        case 0: call(ofShaft[random.nextInt(5)], someShaft()); break;
        case 1: call(ofLink[random.nextInt(3)], someLink()); break;
        case 2: call(ofCam[random.nextInt(4)], someCam()); break;
        case 3: call(ofAll[random.nextInt(5)]); break;
        case 4: call(random.nextBoolean() ? "ratioOver" : "ratioUnder", someShaft(), someInput()); break;
        default: call("struck", someDrum(), some(0, 7)); break;
      }
    }

    void compareAll() {
      for (int i = 0; i < m.place.size(); i++) {
        for (String name : new String[] {"placeOver", "placeUnder", "slackOfOver", "slackOfUnder", "driver"}) call(name, i);
        for (int k = 0; k < m.place.size(); k++) { call("ratioOver", i, k); call("ratioUnder", i, k); }
      }
      for (int i = 0; i < m.links.size(); i++) {
        for (String name : new String[] {"wornOver", "wornUnder", "isBroken"}) call(name, i);
      }
      for (int i = 0; i < m.cams.size(); i++) {
        for (String name : new String[] {"heightOver", "heightUnder", "steepOver", "steepUnder"}) call(name, i);
      }
      for (int i = 0; i < m.drums.size(); i++) for (int t = 0; t < 8; t++) call("struck", i, t);
      for (String name : new String[] {"freedom", "checksum", "drivenShare", "meanWorn", "isSound"}) call(name);
    }

    void call(String name, Object... a) {
      StringBuilder text = new StringBuilder(name + "(");
      for (Object one : a) text.append(one).append(' ');
      due(where, text + ")", answerOf(() -> ofClass(name, a)), answerOf(() -> m.answer(name, a)));
    }

    static int n(Object o) { return (Integer) o; }
    static boolean is(Object o) { return (Boolean) o; }
    static char c(Object o) { return (Character) o; }

    Object ofClass(String name, Object[] a) {
      switch (name) {
        case "shaft": return x.shaft();
        case "link": return x.link(c(a[0]), n(a[1]), n(a[2]), n(a[3]), n(a[4]));
        case "planets": return x.planets(n(a[0]), n(a[1]), n(a[2]), n(a[3]), n(a[4]));
        case "engage": return x.engage(n(a[0]), is(a[1]));
        case "life": return x.life(n(a[0]), n(a[1]));
        case "slack": return x.slack(n(a[0]), n(a[1]));
        case "turn": return x.turn(n(a[0]), n(a[1]));
        case "placeOver": return x.placeOver(n(a[0]));
        case "placeUnder": return x.placeUnder(n(a[0]));
        case "ratioOver": return x.ratioOver(n(a[0]), n(a[1]));
        case "ratioUnder": return x.ratioUnder(n(a[0]), n(a[1]));
        case "driver": return x.driver(n(a[0]));
        case "freedom": return x.freedom();
        case "wornOver": return x.wornOver(n(a[0]));
        case "wornUnder": return x.wornUnder(n(a[0]));
        case "isBroken": return x.isBroken(n(a[0]));
        case "repair": return x.repair(n(a[0]));
        case "slackOfOver": return x.slackOfOver(n(a[0]));
        case "slackOfUnder": return x.slackOfUnder(n(a[0]));
        case "cam": return x.cam(n(a[0]));
        case "segment": return x.segment(n(a[0]), n(a[1]), n(a[2]), c(a[3]));
        case "clear": return x.clear(n(a[0]));
        case "heightOver": return x.heightOver(n(a[0]));
        case "heightUnder": return x.heightUnder(n(a[0]));
        case "steepOver": return x.steepOver(n(a[0]));
        case "steepUnder": return x.steepUnder(n(a[0]));
        case "wish": return x.wish(n(a[0]), n(a[1]), n(a[2]));
        case "make": return x.make(n(a[0]), c(a[1]), n(a[2]));
        case "drum": return x.drum(n(a[0]));
        case "pin": return x.pin(n(a[0]), n(a[1]), n(a[2]), is(a[3]));
        case "struck": return x.struck(n(a[0]), n(a[1]));
        case "bars": return x.bars(n(a[0]), n(a[1]), n(a[2]), n(a[3]));
        case "limitOver": return x.limitOver(n(a[0]), n(a[1]), n(a[2]), n(a[3]), is(a[4]));
        case "limitUnder": return x.limitUnder(n(a[0]), n(a[1]), n(a[2]), n(a[3]), is(a[4]));
        case "angleOver": return x.angleOver(n(a[0]), n(a[1]), n(a[2]), n(a[3]), is(a[4]));
        case "angleUnder": return x.angleUnder(n(a[0]), n(a[1]), n(a[2]), n(a[3]), is(a[4]));
        case "teeth": return x.teeth(n(a[0]), n(a[1]), is(a[2]));
        case "pairs": return x.pairs(n(a[0]), n(a[1]));
        case "checksum": return x.checksum();
        case "drivenShare": return x.drivenShare();
        case "meanWorn": return x.meanWorn();
        case "isSound": return x.isSound();
        default: throw new AssertionError(name);
      }
    }
  }

  /** An unbounded fraction. */
  private static final class Frac {
    static final Frac ZERO = of(0, 1);
    final BigInteger over, under;

    Frac(BigInteger o, BigInteger u) {
      if (u.signum() < 0) { o = o.negate(); u = u.negate(); }
      BigInteger g = o.gcd(u);
      over = o.divide(g);
      under = u.divide(g);
    }

    static Frac of(long o, long u) { return new Frac(BigInteger.valueOf(o), BigInteger.valueOf(u)); }
    Frac plus(Frac f) { return new Frac(over.multiply(f.under).add(f.over.multiply(under)), under.multiply(f.under)); }
    Frac minus(Frac f) { return plus(new Frac(f.over.negate(), f.under)); }
    Frac times(Frac f) { return new Frac(over.multiply(f.over), under.multiply(f.under)); }
    Frac times(long n) { return times(of(n, 1)); }
    Frac abs() { return new Frac(over.abs(), under); }
    int compareTo(Frac f) { return over.multiply(f.under).compareTo(f.over.multiply(under)); }

    long floor() {
      BigInteger[] parts = over.divideAndRemainder(under);
      return (parts[1].signum() < 0 ? parts[0].subtract(BigInteger.ONE) : parts[0]).longValueExact();
    }
  }

  /** The document, as plainly as it can be told. */
  private static final class Model {
    static final class MLink {
      char kind;
      int[] from;
      int to, a, b, life, slack;
      boolean letGo, broken;
      Frac worn = Frac.ZERO;
      long highest;

      Frac share(int k) {
        switch (kind) {
          case 'g': case 'i': return Frac.of(a, b);
          case 'v': return Frac.of(1, a);
          case 'p': return Frac.of(k == 0 ? a : b, a + b);
          default: return Frac.of(1, 1);
        }
      }
    }

    static final class MCam {
      int shaft;
      List<int[]> segments = new ArrayList<>();
      Map<Integer, Integer> wishes = new HashMap<>();

      int parts() { int sum = 0; for (int[] s : segments) sum += s[0]; return sum; }
    }

    static final class MDrum {
      int shaft;
      boolean[][] pins = new boolean[24][8];
      int[] struck = new int[8];
    }

    final List<Frac> place = new ArrayList<>();
    final List<MLink> links = new ArrayList<>();
    final List<MCam> cams = new ArrayList<>();
    final List<MDrum> drums = new ArrayList<>();

    MLink driverOf(int shaft) {
      for (MLink l : links) if (l.to == shaft) return l;
      return null;
    }

    static void index(int number, int size) {
      if (number < 0 || number >= size) throw new IndexOutOfBoundsException();
    }

    static void range(int number, int least, int most) {
      if (number < least || number > most) throw new IllegalArgumentException();
    }

    static void law(char c) {
      if (c != 'u' && c != 'p') throw new IllegalArgumentException();
    }

    Object answer(String name, Object[] a) {
      switch (name) {
        case "shaft": return shaft();
        case "link": return link(Run.c(a[0]), Run.n(a[1]), Run.n(a[2]), Run.n(a[3]), Run.n(a[4]));
        case "planets": return planets(Run.n(a[0]), Run.n(a[1]), Run.n(a[2]), Run.n(a[3]), Run.n(a[4]));
        case "engage": case "life": case "slack": case "wornOver": case "wornUnder": case "isBroken": case "repair":
          return ofLink(name, a);
        case "turn": return turn(Run.n(a[0]), Run.n(a[1]));
        case "placeOver": case "placeUnder": case "driver": case "slackOfOver": case "slackOfUnder":
          return ofShaft(name, Run.n(a[0]));
        case "ratioOver": return ratio(Run.n(a[0]), Run.n(a[1])).over;
        case "ratioUnder": return ratio(Run.n(a[0]), Run.n(a[1])).under;
        case "cam": return cam(Run.n(a[0]));
        case "segment": case "clear": case "heightOver": case "heightUnder": case "steepOver": case "steepUnder":
        case "wish": case "make":
          return ofCam(name, a);
        case "drum": return drum(Run.n(a[0]));
        case "pin": case "struck": return ofDrum(name, a);
        case "bars": case "limitOver": case "limitUnder": case "angleOver": case "angleUnder": return ofBars(name, a);
        case "teeth": case "pairs": return ofTeeth(name, a);
        default: return ofAll(name);
      }
    }

    Object shaft() {
      if (place.size() == 14) throw new IllegalStateException();
      place.add(Frac.ZERO);
      return place.size() - 1;
    }

    Object link(char kind, int from, int to, int a, int b) {
      index(from, place.size());
      index(to, place.size());
      switch (kind) {
        case 'g': case 'i': range(a, 6, 30); range(b, 6, 30); break;
        case 'v': range(a, 3, 12); range(b, 0, 0); break;
        case 'r': range(a, 3, 24); range(b, 0, 0); break;
        case 'k': range(a, 0, 0); range(b, 0, 0); break;
        default: throw new IllegalArgumentException();
      }
      if (from == to) throw new UnsupportedOperationException();
      return join(kind, new int[] {from}, to, a, b);
    }

    Object planets(int sun, int ring, int to, int a, int b) {
      index(sun, place.size());
      index(ring, place.size());
      index(to, place.size());
      range(a, 6, 30);
      range(b, 6, 30);
      if (sun == ring || sun == to || ring == to) throw new UnsupportedOperationException();
      return join('p', new int[] {sun, ring}, to, a, b);
    }

    Object join(char kind, int[] from, int to, int a, int b) {
      if (driverOf(to) != null) throw new UnsupportedOperationException();
      MLink l = new MLink();
      l.kind = kind;
      l.from = from;
      l.to = to;
      l.a = a;
      l.b = b;
      links.add(l);
      boolean good = true;
      for (int s = 0; s < place.size(); s++) good &= behind(s, 0) <= 3;
      if (!good) {
        links.remove(links.size() - 1);
        throw new UnsupportedOperationException();
      }
      if (kind == 'r') l.highest = place.get(from[0]).times(a).floor();
      return links.size() - 1;
    }

    int behind(int shaft, int deep) {
      MLink l = driverOf(shaft);
      if (l == null || deep > 6) return 0;
      int most = 0;
      for (int f : l.from) most = Math.max(most, 1 + behind(f, deep + 1));
      return most;
    }

    Object ofLink(String name, Object[] a) {
      index(Run.n(a[0]), links.size());
      MLink l = links.get(Run.n(a[0]));
      int before;
      switch (name) {
        case "engage": {
          if (l.kind != 'k') throw new UnsupportedOperationException();
          boolean was = !l.letGo;
          l.letGo = !Run.is(a[1]);
          return was;
        }
        case "life":
          range(Run.n(a[1]), 0, 999);
          before = l.life;
          l.life = Run.n(a[1]);
          return before;
        case "slack":
          range(Run.n(a[1]), 0, 99);
          before = l.slack;
          l.slack = Run.n(a[1]);
          return before;
        case "wornOver": return l.worn.over;
        case "wornUnder": return l.worn.under;
        case "isBroken": return l.broken;
        default: {
          if (!l.broken) throw new UnsupportedOperationException();
          l.broken = false;
          l.worn = Frac.ZERO;
          if (l.kind == 'r') l.highest = place.get(l.from[0]).times(l.a).floor();
          int count = 0;
          for (MLink k : links) if (k.broken) count++;
          return count;
        }
      }
    }

    Object turn(int shaft, int steps) {
      index(shaft, place.size());
      range(steps, -48, 48);
      if (driverOf(shaft) != null) throw new UnsupportedOperationException();
      List<Frac> first = new ArrayList<>(place);
      for (int i = 0; i < Math.abs(steps); i++) step(shaft, steps > 0 ? 1 : -1);
      for (MLink l : links) {
        if (l.life != 0 && l.worn.compareTo(Frac.of(l.life, 1)) > 0) l.broken = true;
      }
      int count = 0;
      for (int s = 0; s < place.size(); s++) if (place.get(s).compareTo(first.get(s)) != 0) count++;
      return count;
    }

    void step(int input, int way) {
      List<Frac> old = new ArrayList<>(place);
      Map<Integer, Frac> by = new HashMap<>();
      by.put(input, Frac.of(way, 24));
      for (int s = 0; s < place.size(); s++) turned(s, by, old);
      for (int s = 0; s < place.size(); s++) place.set(s, old.get(s).plus(by.get(s)));
      for (MLink l : links) {
        if (l.broken || l.letGo) continue;
        for (int f : l.from) l.worn = l.worn.plus(by.get(f).abs());
      }
      for (MDrum d : drums) {
        long n0 = old.get(d.shaft).times(24).floor();
        long n1 = place.get(d.shaft).times(24).floor();
        while (n0 < n1) { n0++; strike(d, n0); }
        while (n0 > n1) { strike(d, n0); n0--; }
      }
    }

    static void strike(MDrum d, long number) {
      int part = (int) (((number % 24) + 24) % 24);
      for (int t = 0; t < 8; t++) if (d.pins[part][t]) d.struck[t]++;
    }

    Frac turned(int shaft, Map<Integer, Frac> by, List<Frac> old) {
      if (by.containsKey(shaft)) return by.get(shaft);
      MLink l = driverOf(shaft);
      Frac much = Frac.ZERO;
      if (l != null && !l.broken && !l.letGo) {
        Frac d = turned(l.from[0], by, old);
        Frac was = old.get(l.from[0]);
        Frac is = was.plus(d);
        switch (l.kind) {
          case 'g': much = d.times(Frac.of(-l.a, l.b)); break;
          case 'i': much = d.times(Frac.of(l.a, l.b)); break;
          case 'k': much = d; break;
          case 'p':
            much = d.times(l.a).plus(turned(l.from[1], by, old).times(l.b)).times(Frac.of(1, l.a + l.b));
            break;
          case 'v': much = Frac.of(is.floor() - was.floor(), l.a); break;
          default: {
            long whole = is.times(l.a).floor();
            if (whole > l.highest) {
              much = Frac.of(whole - l.highest, l.a);
              l.highest = whole;
            }
          }
        }
      }
      by.put(shaft, much);
      return much;
    }

    Object ofShaft(String name, int shaft) {
      index(shaft, place.size());
      switch (name) {
        case "placeOver": return place.get(shaft).over;
        case "placeUnder": return place.get(shaft).under;
        case "slackOfOver": return slackOf(shaft).over;
        case "slackOfUnder": return slackOf(shaft).under;
        default: {
          MLink l = driverOf(shaft);
          if (l == null) throw new NoSuchElementException();
          return links.indexOf(l);
        }
      }
    }

    Frac slackOf(int shaft) {
      MLink l = driverOf(shaft);
      if (l == null) return Frac.ZERO;
      Frac sum = Frac.of(l.slack, 1);
      for (int k = 0; k < l.from.length; k++) sum = sum.plus(slackOf(l.from[k]).times(l.share(k)));
      return sum;
    }

    Frac ratio(int shaft, int input) {
      index(shaft, place.size());
      index(input, place.size());
      if (driverOf(input) != null) throw new UnsupportedOperationException();
      return ways(shaft, input, Frac.of(1, 1), false);
    }

    /** Sums over the ways up from a shaft to the input. */
    Frac ways(int shaft, int input, Frac much, boolean jerky) {
      if (shaft == input) {
        if (jerky) throw new UnsupportedOperationException();
        return much;
      }
      MLink l = driverOf(shaft);
      if (l == null) return Frac.ZERO;
      Frac sum = Frac.ZERO;
      for (int k = 0; k < l.from.length; k++) {
        Frac share = l.broken || l.letGo ? Frac.ZERO : l.share(k);
        if (l.kind == 'g') share = share.times(-1);
        boolean step = (l.kind == 'v' || l.kind == 'r') && !l.broken;
        sum = sum.plus(ways(l.from[k], input, much.times(share), jerky || step));
      }
      return sum;
    }

    Object cam(int shaft) {
      index(shaft, place.size());
      if (cams.size() == 8) throw new IllegalStateException();
      MCam c = new MCam();
      c.shaft = shaft;
      cams.add(c);
      return cams.size() - 1;
    }

    Object ofCam(String name, Object[] a) {
      index(Run.n(a[0]), cams.size());
      MCam c = cams.get(Run.n(a[0]));
      switch (name) {
        case "segment": {
          range(Run.n(a[1]), 1, 24);
          range(Run.n(a[2]), 0, 99);
          law(Run.c(a[3]));
          if (c.parts() + Run.n(a[1]) > 24) throw new UnsupportedOperationException();
          c.segments.add(new int[] {Run.n(a[1]), Run.n(a[2]), Run.c(a[3])});
          return c.parts();
        }
        case "clear": {
          int count = c.segments.size();
          c.segments.clear();
          return count;
        }
        case "wish": {
          range(Run.n(a[1]), 0, 23);
          range(Run.n(a[2]), -1, 99);
          if (Run.n(a[2]) == -1) c.wishes.remove(Run.n(a[1]));
          else c.wishes.put(Run.n(a[1]), Run.n(a[2]));
          return c.wishes.size();
        }
        case "make": return make(c, Run.c(a[1]), Run.n(a[2]));
        default: {
          if (c.parts() != 24) throw new UnsupportedOperationException();
          Frac f = name.startsWith("height") ? height(c) : steep(c.segments);
          return name.endsWith("Over") ? f.over : f.under;
        }
      }
    }

    Object make(MCam c, char law, int bound) {
      law(law);
      range(bound, 1, 99);
      if (!c.wishes.containsKey(0)) throw new NoSuchElementException();
      List<int[]> made = new ArrayList<>();
      int last = 0;
      for (int part = 1; part <= 24; part++) {
        if (part == 24 || c.wishes.containsKey(part)) {
          made.add(new int[] {part - last, c.wishes.get(part % 24), law});
          last = part;
        }
      }
      if (steep(made).compareTo(Frac.of(bound, 1)) > 0) throw new UnsupportedOperationException();
      c.segments = made;
      return made.size();
    }

    Frac height(MCam c) {
      int part = (int) (((place.get(c.shaft).times(24).floor() % 24) + 24) % 24);
      int from = c.segments.get(c.segments.size() - 1)[1];
      for (int[] s : c.segments) {
        if (part < s[0]) {
          Frac t = Frac.of(part, s[0]);
          Frac left = Frac.of(s[0] - part, s[0]);
          Frac gone = t;
          if (s[2] == 'p') {
            boolean early = t.compareTo(Frac.of(1, 2)) <= 0;
            gone = early ? t.times(t).times(2) : Frac.of(1, 1).minus(left.times(left).times(2));
          }
          return Frac.of(from, 1).plus(gone.times(s[1] - from));
        }
        part -= s[0];
        from = s[1];
      }
      throw new AssertionError();
    }

    Frac steep(List<int[]> segments) {
      Frac most = Frac.ZERO;
      int from = segments.get(segments.size() - 1)[1];
      for (int[] s : segments) {
        Frac one = Frac.of(Math.abs(s[1] - from) * (s[2] == 'p' ? 2 : 1), s[0]);
        if (one.compareTo(most) > 0) most = one;
        from = s[1];
      }
      return most;
    }

    Object drum(int shaft) {
      index(shaft, place.size());
      if (drums.size() == 4) throw new IllegalStateException();
      MDrum d = new MDrum();
      d.shaft = shaft;
      drums.add(d);
      return drums.size() - 1;
    }

    Object ofDrum(String name, Object[] a) {
      index(Run.n(a[0]), drums.size());
      MDrum d = drums.get(Run.n(a[0]));
      if (name.equals("struck")) {
        range(Run.n(a[1]), 0, 7);
        return d.struck[Run.n(a[1])];
      }
      range(Run.n(a[1]), 0, 23);
      range(Run.n(a[2]), 0, 7);
      boolean was = d.pins[Run.n(a[1])][Run.n(a[2])];
      d.pins[Run.n(a[1])][Run.n(a[2])] = Run.is(a[3]);
      return was;
    }

    Object ofBars(String name, Object[] a) {
      int[] n = new int[4];
      for (int i = 0; i < 4; i++) { n[i] = Run.n(a[i]); range(n[i], 1, 999); }
      if (name.equals("bars")) return letter(n);
      boolean limit = name.startsWith("limit");
      int x = limit ? n[2] : n[1];
      int y = limit ? n[3] : n[2];
      int other = limit ? n[1] : n[3];
      int e = Run.is(a[4]) ? n[0] + other : Math.abs(n[0] - other);
      boolean good = e > 0 && e < x + y && x < e + y && y < e + x;
      if (!good) throw new NoSuchElementException();
      Frac f = Frac.of((long) x * x + (long) y * y - (long) e * e, 2L * x * y);
      return name.endsWith("Over") ? f.over : f.under;
    }

    static char letter(int[] n) {
      int[] s = n.clone();
      java.util.Arrays.sort(s);
      if (s[3] >= s[0] + s[1] + s[2]) return 'x';
      int ends = s[0] + s[3];
      int middle = s[1] + s[2];
      if (ends == middle) return 'e';
      if (ends > middle) return 't';
      return n[0] == s[0] ? 'c' : n[2] == s[0] ? 'r' : n[3] == s[0] ? 'd' : 'o';
    }

    Object ofTeeth(String name, Object[] a) {
      range(Run.n(a[0]), 1, 9999);
      range(Run.n(a[1]), 1, 9999);
      Frac ratio = Frac.of(Run.n(a[0]), Run.n(a[1]));
      int count = 0;
      int[] best = null;
      Frac nearest = null;
      for (int sum = 12; sum <= 60; sum++) {
        for (int p = 6; p <= 30; p++) {
          int q = sum - p;
          if (q < 6 || q > 30) continue;
          Frac far = Frac.of(p, q).minus(ratio).abs();
          if (far.compareTo(Frac.ZERO) == 0) count++;
          if (best == null || far.compareTo(nearest) < 0) { best = new int[] {p, q}; nearest = far; }
        }
      }
      return name.equals("pairs") ? (Object) count : (Object) (Run.is(a[2]) ? best[0] : best[1]);
    }

    Object ofAll(String name) {
      int driven = 0;
      for (int s = 0; s < place.size(); s++) if (driverOf(s) != null) driven++;
      switch (name) {
        case "freedom": return place.size() - driven;
        case "drivenShare":
          if (place.isEmpty()) throw new ArithmeticException();
          return (float) driven / (float) place.size();
        case "meanWorn": {
          if (links.isEmpty()) throw new ArithmeticException();
          double sum = 0.0;
          for (MLink l : links) sum += (double) l.worn.over.longValueExact() / (double) l.worn.under.longValueExact();
          return sum / (double) links.size();
        }
        case "isSound": return true;
        case "checksum": {
          long sum = 7;
          for (Frac f : place) {
            sum = 31 * sum + f.over.longValueExact();
            sum = 31 * sum + f.under.longValueExact();
          }
          for (MDrum d : drums) for (int t = 0; t < 8; t++) sum = 31 * sum + d.struck[t];
          return sum;
        }
        default: throw new AssertionError(name);
      }
    }
  }
}
