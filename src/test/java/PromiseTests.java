import java.util.NoSuchElementException;
import java.util.function.Supplier;

/** For each promise: ordinary inputs, the edges that the document names, and wrong inputs in their order. */
public final class PromiseTests {
  private static final int LOW = Integer.MIN_VALUE;
  private static final int HIGH = Integer.MAX_VALUE;
  private static final Class<?> INDEX = IndexOutOfBoundsException.class;
  private static final Class<?> ARGUMENT = IllegalArgumentException.class;
  private static final Class<?> UNSUPPORTED = UnsupportedOperationException.class;
  private static final Class<?> STATE = IllegalStateException.class;
  private static final Class<?> MISSING = NoSuchElementException.class;
  private static final Class<?> ARITHMETIC = ArithmeticException.class;
  private static int wrong = 0;
  private static int promise = 0;

  public static void main(String[] args) {
    newObject(); shaft(); link(); linkFar(); linkBackwards(); planets(); engage(); life(); slack();
    turn(); turnGears(); turnGeneva(); turnRatchet(); turnPlanets(); turnTogether();
    places(); ratios(); ratiosOnWays(); driver(); freedom(); worn(); broken(); repair(); repairRatchet(); slackOf();
    cam(); segment(); clear(); heights(); steeps(); wish(); make();
    drum(); pin(); struck(); struckByFastShaft();
    bars(); limits(); angles(); teeth(); pairs();
    checksum(); drivenShare(); meanWorn(); isSound();
    System.out.println(wrong == 0 ? "all answers are as due" : wrong + " answers are not as due");
    if (wrong != 0) System.exit(1);
  }

  private static void due(Object got, Object want) {
    if (!String.valueOf(got).equals(String.valueOf(want))) {
      wrong++;
      StackTraceElement at = new Throwable().getStackTrace()[1];
      System.out.println("promise " + promise + ", line " + at.getLineNumber() + ": answered " + got + ", due is " + want);
    }
  }

  /** The call must throw just this exception, by the class itself, and must not change the works. */
  private static void throwing(Class<?> kind, Linkwright x, Supplier<Object> call) {
    String before = stateOf(x);
    String got;
    try {
      got = "nothing but " + call.get();
    } catch (RuntimeException e) {
      boolean own = e.getStackTrace().length > 0 && e.getStackTrace()[0].getClassName().startsWith("Linkwright");
      got = own ? e.getClass().getName() : e.getClass().getName() + " by the machine";
    }
    StackTraceElement at = new Throwable().getStackTrace()[1];
    if (!got.equals(kind.getName())) {
      wrong++;
      System.out.println("promise " + promise + ", line " + at.getLineNumber() + ": threw " + got + ", due is " + kind.getName());
    }
    if (!stateOf(x).equals(before)) {
      wrong++;
      System.out.println("promise " + promise + ", line " + at.getLineNumber() + ": a call that throws changed something");
    }
  }

  private static String stateOf(Linkwright x) {
    StringBuilder all = new StringBuilder();
    all.append(x.freedom()).append(' ').append(x.checksum()).append(' ').append(x.isSound()).append(' ');
    all.append(maybe(() -> x.drivenShare())).append(maybe(() -> x.meanWorn()));
    for (int n = 0; n < 17; n++) {
      int i = n;
      all.append(maybe(() -> x.placeOver(i))).append(maybe(() -> x.placeUnder(i))).append(maybe(() -> x.driver(i)));
      all.append(maybe(() -> x.slackOfOver(i))).append(maybe(() -> x.wornOver(i))).append(maybe(() -> x.wornUnder(i)));
      all.append(maybe(() -> x.isBroken(i))).append(maybe(() -> x.heightOver(i))).append(maybe(() -> x.steepOver(i)));
      for (int k = 0; k < 3; k++) {
        int input = k;
        all.append(maybe(() -> x.ratioOver(i, input)));
      }
      all.append(maybe(() -> x.struck(i, 0)));
    }
    return all.toString();
  }

  private static String maybe(Supplier<Object> call) {
    try {
      return call.get() + " ";
    } catch (RuntimeException e) {
      return "- ";
    }
  }

  private static Linkwright shop(int shafts) {
    Linkwright x = new Linkwright();
    for (int i = 0; i < shafts; i++) x.shaft();
    return x;
  }

  private static String place(Linkwright x, int shaft) { return x.placeOver(shaft) + "/" + x.placeUnder(shaft); }
  private static String ratio(Linkwright x, int shaft, int input) { return x.ratioOver(shaft, input) + "/" + x.ratioUnder(shaft, input); }
  private static String worn(Linkwright x, int link) { return x.wornOver(link) + "/" + x.wornUnder(link); }
  private static String slackOf(Linkwright x, int shaft) { return x.slackOfOver(shaft) + "/" + x.slackOfUnder(shaft); }
  private static String height(Linkwright x, int cam) { return x.heightOver(cam) + "/" + x.heightUnder(cam); }
  private static String steep(Linkwright x, int cam) { return x.steepOver(cam) + "/" + x.steepUnder(cam); }

  private static void newObject() {
    promise = 1;
    Linkwright x = new Linkwright();
    due(x.freedom(), 0);
    due(x.checksum(), 7L);
    due(x.isSound(), true);
    throwing(INDEX, x, () -> x.placeOver(0));
    throwing(INDEX, x, () -> x.isBroken(0));
    throwing(INDEX, x, () -> x.clear(0));
    throwing(INDEX, x, () -> x.struck(0, 0));
    Linkwright y = new Linkwright();
    y.shaft();
    due(x.freedom(), 0);
  }

  private static void shaft() {
    promise = 2;
    Linkwright x = new Linkwright();
    for (int i = 0; i < 14; i++) due(x.shaft(), i);
    throwing(STATE, x, () -> x.shaft());
    due(x.freedom(), 14);
    due(place(x, 13), "0/1");
  }

  private static void link() {
    promise = 3;
    Linkwright x = shop(6);
    throwing(INDEX, x, () -> x.link('z', -1, 0, 0, 0));
    throwing(INDEX, x, () -> x.link('z', 0, 6, 0, 0));
    throwing(INDEX, x, () -> x.link('g', HIGH, 0, 6, 6));
    throwing(INDEX, x, () -> x.link('g', 0, LOW, 6, 6));
    throwing(ARGUMENT, x, () -> x.link('z', 0, 0, 6, 6));
    throwing(ARGUMENT, x, () -> x.link('p', 0, 1, 6, 6));
    throwing(ARGUMENT, x, () -> x.link('G', 0, 1, 6, 6));
    throwing(ARGUMENT, x, () -> x.link((char) 0, 0, 1, 0, 0));
    for (char kind : new char[] {'g', 'i'}) {
      throwing(ARGUMENT, x, () -> x.link(kind, 0, 1, 5, 6));
      throwing(ARGUMENT, x, () -> x.link(kind, 0, 1, 31, 6));
      throwing(ARGUMENT, x, () -> x.link(kind, 0, 1, 6, 5));
      throwing(ARGUMENT, x, () -> x.link(kind, 0, 1, 6, 31));
      throwing(ARGUMENT, x, () -> x.link(kind, 0, 1, LOW, HIGH));
    }
    throwing(ARGUMENT, x, () -> x.link('v', 0, 1, 2, 0));
    throwing(ARGUMENT, x, () -> x.link('v', 0, 1, 13, 0));
    throwing(ARGUMENT, x, () -> x.link('v', 0, 1, 3, 1));
    throwing(ARGUMENT, x, () -> x.link('r', 0, 1, 2, 0));
    throwing(ARGUMENT, x, () -> x.link('r', 0, 1, 25, 0));
    throwing(ARGUMENT, x, () -> x.link('r', 0, 1, 3, -1));
    throwing(ARGUMENT, x, () -> x.link('k', 0, 1, 1, 0));
    throwing(ARGUMENT, x, () -> x.link('k', 0, 1, 0, 1));
    throwing(ARGUMENT, x, () -> x.link('k', 0, 0, 0, 1));
    throwing(UNSUPPORTED, x, () -> x.link('k', 0, 0, 0, 0));
    due(x.link('g', 0, 1, 6, 30), 0);
    throwing(UNSUPPORTED, x, () -> x.link('i', 2, 1, 6, 6));
    due(x.link('i', 0, 2, 30, 6), 1);
    due(x.link('v', 0, 3, 12, 0), 2);
    due(x.link('r', 0, 4, 24, 0), 3);
    due(x.link('k', 0, 5, 0, 0), 4);
    due(shop(2).link('v', 0, 1, 3, 0), 0);
    due(shop(2).link('r', 0, 1, 3, 0), 0);
  }

  private static void linkFar() {
    promise = 3;
    Linkwright x = shop(14);
    due(x.link('k', 1, 2, 0, 0), 0);
    due(x.link('k', 2, 3, 0, 0), 1);
    throwing(UNSUPPORTED, x, () -> x.link('k', 3, 1, 0, 0));
    throwing(UNSUPPORTED, x, () -> x.link('k', 2, 1, 0, 0));
    due(x.link('k', 4, 5, 0, 0), 2);
    throwing(UNSUPPORTED, x, () -> x.link('k', 5, 1, 0, 0));
    due(x.link('k', 0, 1, 0, 0), 3);
    throwing(UNSUPPORTED, x, () -> x.link('k', 3, 6, 0, 0));
    throwing(UNSUPPORTED, x, () -> x.link('k', 6, 0, 0, 0));
    for (int i = 6; i < 14; i++) due(x.link('k', 0, i, 0, 0), i - 2);
    due(x.freedom(), 2);
    due(x.turn(0, 3), 12);
    due(place(x, 3), "1/8");
    due(x.isSound(), true);
  }

  /** Links made from the far end on: only the last one makes the way too long. */
  private static void linkBackwards() {
    promise = 3;
    Linkwright x = shop(5);
    x.link('k', 1, 0, 0, 0);
    x.link('k', 2, 1, 0, 0);
    x.link('k', 3, 2, 0, 0);
    throwing(UNSUPPORTED, x, () -> x.link('k', 4, 3, 0, 0));
    throwing(UNSUPPORTED, x, () -> x.link('k', 0, 3, 0, 0));
    throwing(UNSUPPORTED, x, () -> x.planets(4, 1, 3, 6, 6));
    throwing(UNSUPPORTED, x, () -> x.link('k', 4, 0, 0, 0));
    due(x.freedom(), 2);
    due(x.turn(3, 6), 4);
    due(place(x, 0), "1/4");
  }

  private static void planets() {
    promise = 4;
    Linkwright x = shop(8);
    throwing(INDEX, x, () -> x.planets(-1, 1, 2, 0, 0));
    throwing(INDEX, x, () -> x.planets(0, 8, 2, 0, 0));
    throwing(INDEX, x, () -> x.planets(0, 1, HIGH, 6, 6));
    throwing(ARGUMENT, x, () -> x.planets(0, 0, 0, 5, 6));
    throwing(ARGUMENT, x, () -> x.planets(0, 1, 2, 31, 6));
    throwing(ARGUMENT, x, () -> x.planets(0, 1, 2, 6, 5));
    throwing(ARGUMENT, x, () -> x.planets(0, 1, 2, 6, 31));
    throwing(UNSUPPORTED, x, () -> x.planets(0, 0, 1, 6, 6));
    throwing(UNSUPPORTED, x, () -> x.planets(0, 1, 0, 6, 6));
    throwing(UNSUPPORTED, x, () -> x.planets(0, 1, 1, 6, 6));
    due(x.planets(0, 1, 2, 6, 30), 0);
    throwing(UNSUPPORTED, x, () -> x.planets(0, 3, 2, 6, 6));
    throwing(UNSUPPORTED, x, () -> x.planets(3, 2, 0, 6, 6));
    throwing(UNSUPPORTED, x, () -> x.link('k', 2, 1, 0, 0));
    due(x.planets(3, 2, 4, 30, 6), 1);
    due(x.planets(4, 0, 5, 6, 6), 2);
    throwing(UNSUPPORTED, x, () -> x.planets(0, 5, 6, 6, 6));
    throwing(UNSUPPORTED, x, () -> x.planets(6, 7, 0, 6, 6));
    due(x.planets(6, 0, 7, 6, 6), 3);
    due(x.driver(7), 3);
  }

  private static void engage() {
    promise = 5;
    Linkwright x = shop(3);
    x.link('g', 0, 1, 6, 6);
    x.link('k', 0, 2, 0, 0);
    throwing(INDEX, x, () -> x.engage(-1, true));
    throwing(INDEX, x, () -> x.engage(2, true));
    throwing(UNSUPPORTED, x, () -> x.engage(0, false));
    due(x.engage(1, true), true);
    due(x.engage(1, false), true);
    due(x.engage(1, false), false);
    due(x.turn(0, 12), 2);
    due(place(x, 2), "0/1");
    due(worn(x, 1), "0/1");
    due(ratio(x, 2, 0), "0/1");
    due(x.engage(1, true), false);
    due(x.turn(0, 6), 3);
    due(place(x, 2), "1/4");
    due(worn(x, 1), "1/4");
    due(worn(x, 0), "3/4");
    due(x.isSound(), true);
    x.engage(1, false);
    due(x.isSound(), true);
  }

  private static void life() {
    promise = 6;
    Linkwright x = shop(4);
    x.link('g', 0, 1, 6, 6);
    x.link('k', 2, 3, 0, 0);
    throwing(INDEX, x, () -> x.life(-1, -1));
    throwing(INDEX, x, () -> x.life(2, 1));
    throwing(ARGUMENT, x, () -> x.life(0, -1));
    throwing(ARGUMENT, x, () -> x.life(0, 1000));
    due(x.life(0, 999), 0);
    due(x.life(0, 1), 999);
    x.turn(0, 24);
    due(x.isBroken(0), false);
    x.turn(0, 48);
    due(x.isBroken(0), true);
    due(worn(x, 0), "3/1");
    due(place(x, 1), "-3/1");
    due(x.life(0, 0), 1);
    due(x.isBroken(0), true);
    due(x.turn(0, 1), 1);
    due(worn(x, 0), "3/1");
    x.turn(2, 48);
    x.life(1, 1);
    due(x.isBroken(1), false);
    due(x.turn(0, 0), 0);
    due(x.isBroken(1), true);
    due(x.engage(1, false), true);
    x.repair(1);
    due(x.turn(2, 24), 1);
    due(x.engage(1, true), false);
    due(x.turn(2, -24), 2);
    due(worn(x, 1), "1/1");
    due(x.isBroken(1), false);
  }

  private static void slack() {
    promise = 7;
    Linkwright x = shop(2);
    x.link('g', 0, 1, 6, 6);
    throwing(INDEX, x, () -> x.slack(1, -1));
    throwing(INDEX, x, () -> x.slack(LOW, 0));
    throwing(ARGUMENT, x, () -> x.slack(0, -1));
    throwing(ARGUMENT, x, () -> x.slack(0, 100));
    due(x.slack(0, 99), 0);
    due(x.slack(0, 0), 99);
    due(x.slack(0, 7), 0);
    due(x.slack(0, 8), 7);
  }

  private static void turn() {
    promise = 8;
    Linkwright x = shop(3);
    x.link('g', 0, 1, 6, 6);
    throwing(INDEX, x, () -> x.turn(3, 99));
    throwing(INDEX, x, () -> x.turn(-1, 1));
    throwing(ARGUMENT, x, () -> x.turn(1, 49));
    throwing(ARGUMENT, x, () -> x.turn(0, -49));
    throwing(ARGUMENT, x, () -> x.turn(0, LOW));
    throwing(UNSUPPORTED, x, () -> x.turn(1, 1));
    throwing(UNSUPPORTED, x, () -> x.turn(1, 0));
    due(x.turn(0, 0), 0);
    due(x.turn(2, 48), 1);
    due(x.turn(0, -48), 2);
    due(place(x, 0), "-2/1");
    due(place(x, 1), "2/1");
    due(place(x, 2), "2/1");
  }

  private static void turnGears() {
    promise = 8;
    Linkwright x = shop(4);
    x.link('i', 2, 3, 7, 11);
    x.link('g', 1, 2, 29, 30);
    x.link('k', 0, 1, 0, 0);
    due(x.turn(0, 5), 4);
    due(place(x, 1), "5/24");
    due(place(x, 2), "-29/144");
    due(place(x, 3), "-203/1584");
  }

  private static void turnGeneva() {
    promise = 8;
    Linkwright x = shop(3);
    x.turn(0, 23);
    x.link('v', 0, 1, 5, 0);
    x.link('i', 0, 2, 6, 6);
    due(x.turn(0, 1), 3);
    due(place(x, 1), "1/5");
    due(x.turn(0, 23), 2);
    due(x.turn(0, -23), 2);
    due(x.turn(0, -1), 3);
    due(place(x, 1), "0/1");
    due(x.turn(0, -24), 3);
    due(place(x, 1), "-1/5");
    Linkwright fast = shop(4);
    fast.link('i', 0, 1, 30, 6);
    fast.link('i', 1, 2, 30, 6);
    fast.link('v', 2, 3, 12, 0);
    fast.turn(0, 1);
    due(place(fast, 3), "1/12");
    fast.turn(0, 1);
    due(place(fast, 3), "1/6");
    fast.turn(0, -3);
    due(place(fast, 3), "-1/6");
  }

  private static void turnRatchet() {
    promise = 8;
    Linkwright x = shop(2);
    x.turn(0, 10);
    x.turn(0, -20);
    x.link('r', 0, 1, 24, 0);
    due(x.turn(0, 1), 2);
    due(place(x, 1), "1/24");
    due(x.turn(0, -5), 1);
    due(x.turn(0, 5), 1);
    due(x.turn(0, 2), 2);
    due(place(x, 1), "1/8");
    Linkwright y = shop(3);
    y.link('i', 0, 1, 30, 6);
    y.link('r', 1, 2, 24, 0);
    y.turn(0, 1);
    due(place(y, 2), "5/24");
    due(y.isSound(), true);
  }

  private static void turnPlanets() {
    promise = 8;
    Linkwright x = shop(4);
    x.link('g', 0, 1, 6, 6);
    x.planets(0, 1, 2, 12, 12);
    due(x.turn(0, 24), 2);
    due(place(x, 2), "0/1");
    due(worn(x, 1), "2/1");
    Linkwright y = shop(3);
    y.planets(0, 1, 2, 10, 20);
    due(y.turn(0, 24), 2);
    due(place(y, 2), "1/3");
    due(y.turn(1, -24), 2);
    due(place(y, 2), "-1/3");
  }

  /** What turns to and fro within a call by different wheels counts by its place behind the call. */
  private static void turnTogether() {
    promise = 8;
    Linkwright x = shop(4);
    x.link('v', 0, 1, 3, 0);
    x.link('g', 0, 2, 10, 30);
    x.planets(1, 2, 3, 6, 6);
    due(x.turn(0, 24), 3);
    due(place(x, 3), "0/1");
    due(x.turn(0, 12), 3);
    due(x.isSound(), true);
  }

  private static void places() {
    Linkwright x = shop(2);
    x.turn(0, -30);
    promise = 9;
    due(x.placeOver(0), -5L);
    due(x.placeOver(1), 0L);
    throwing(INDEX, x, () -> x.placeOver(-1));
    throwing(INDEX, x, () -> x.placeOver(2));
    promise = 10;
    due(x.placeUnder(0), 4L);
    due(x.placeUnder(1), 1L);
    throwing(INDEX, x, () -> x.placeUnder(-1));
    throwing(INDEX, x, () -> x.placeUnder(14));
  }

  private static void ratios() {
    Linkwright x = shop(6);
    x.link('g', 0, 1, 12, 24);
    x.link('i', 1, 2, 10, 6);
    x.planets(2, 0, 3, 12, 24);
    x.link('k', 4, 5, 0, 0);
    for (int k = 11; k <= 12; k++) {
      promise = k;
      due(ratio(x, 0, 0), "1/1");
      due(ratio(x, 1, 0), "-1/2");
      due(ratio(x, 2, 0), "-5/6");
      due(ratio(x, 3, 0), "7/18");
      due(ratio(x, 5, 0), "0/1");
      due(ratio(x, 4, 0), "0/1");
      due(ratio(x, 0, 4), "0/1");
      due(ratio(x, 5, 4), "1/1");
    }
    promise = 11;
    throwing(INDEX, x, () -> x.ratioOver(-1, 1));
    throwing(INDEX, x, () -> x.ratioOver(0, 6));
    throwing(UNSUPPORTED, x, () -> x.ratioOver(0, 1));
    throwing(UNSUPPORTED, x, () -> x.ratioOver(1, 1));
    promise = 12;
    throwing(INDEX, x, () -> x.ratioUnder(6, 1));
    throwing(INDEX, x, () -> x.ratioUnder(0, -1));
    throwing(UNSUPPORTED, x, () -> x.ratioUnder(0, 1));
    throwing(UNSUPPORTED, x, () -> x.ratioUnder(2, 2));
  }

  private static void ratiosOnWays() {
    promise = 11;
    Linkwright x = shop(7);
    x.link('k', 0, 1, 0, 0);
    x.link('v', 1, 2, 3, 0);
    x.link('i', 2, 3, 6, 12);
    x.planets(0, 1, 4, 6, 6);
    x.planets(5, 2, 6, 6, 12);
    throwing(UNSUPPORTED, x, () -> x.ratioOver(2, 0));
    throwing(UNSUPPORTED, x, () -> x.ratioOver(3, 0));
    throwing(UNSUPPORTED, x, () -> x.ratioOver(6, 0));
    due(ratio(x, 6, 5), "1/3");
    due(ratio(x, 4, 0), "1/1");
    x.engage(0, false);
    due(ratio(x, 4, 0), "1/2");
    throwing(UNSUPPORTED, x, () -> x.ratioOver(3, 0));
    throwing(UNSUPPORTED, x, () -> x.ratioUnder(3, 0));
    x.engage(0, true);
    x.life(1, 1);
    x.turn(0, 25);
    due(x.isBroken(1), true);
    due(ratio(x, 3, 0), "0/1");
    due(ratio(x, 6, 0), "0/1");
    x.repair(1);
    throwing(UNSUPPORTED, x, () -> x.ratioUnder(3, 0));
    Linkwright y = shop(4);
    y.link('g', 0, 1, 6, 6);
    y.link('r', 1, 2, 3, 0);
    y.link('k', 2, 3, 0, 0);
    y.life(0, 1);
    y.turn(0, 30);
    due(ratio(y, 1, 0), "0/1");
    throwing(UNSUPPORTED, y, () -> y.ratioOver(3, 0));
    y.life(0, 0);
    y.life(1, 1);
    y.repair(0);
    y.turn(0, 48);
    due(y.isBroken(1), true);
    due(ratio(y, 1, 0), "-1/1");
    due(ratio(y, 2, 0), "0/1");
    due(ratio(y, 3, 0), "0/1");
  }

  private static void driver() {
    promise = 13;
    Linkwright x = shop(4);
    x.link('k', 0, 3, 0, 0);
    x.planets(0, 3, 1, 6, 6);
    due(x.driver(3), 0);
    due(x.driver(1), 1);
    throwing(INDEX, x, () -> x.driver(4));
    throwing(INDEX, x, () -> x.driver(-1));
    throwing(MISSING, x, () -> x.driver(0));
    throwing(MISSING, x, () -> x.driver(2));
    x.engage(0, false);
    due(x.driver(3), 0);
  }

  private static void freedom() {
    promise = 14;
    Linkwright x = shop(3);
    due(x.freedom(), 3);
    x.link('k', 0, 1, 0, 0);
    due(x.freedom(), 2);
    x.engage(0, false);
    due(x.freedom(), 2);
    x.link('k', 0, 2, 0, 0);
    due(x.freedom(), 1);
  }

  private static void worn() {
    Linkwright x = shop(5);
    x.link('g', 0, 1, 6, 12);
    x.link('v', 1, 2, 3, 0);
    x.planets(0, 3, 4, 6, 6);
    for (int k = 15; k <= 16; k++) {
      promise = k;
      due(worn(x, 0), "0/1");
    }
    x.turn(0, 7);
    x.turn(0, -3);
    x.turn(3, -1);
    promise = 15;
    due(x.wornOver(0), 5L);
    due(x.wornOver(1), 5L);
    due(x.wornOver(2), 11L);
    throwing(INDEX, x, () -> x.wornOver(3));
    throwing(INDEX, x, () -> x.wornOver(-1));
    promise = 16;
    due(x.wornUnder(0), 12L);
    due(x.wornUnder(1), 24L);
    due(x.wornUnder(2), 24L);
    throwing(INDEX, x, () -> x.wornUnder(3));
    throwing(INDEX, x, () -> x.wornUnder(LOW));
  }

  private static void broken() {
    promise = 17;
    Linkwright x = shop(3);
    x.link('i', 0, 1, 6, 6);
    x.link('i', 1, 2, 6, 6);
    throwing(INDEX, x, () -> x.isBroken(2));
    throwing(INDEX, x, () -> x.isBroken(-1));
    x.life(0, 1);
    due(x.turn(0, 24), 3);
    due(x.isBroken(0), false);
    due(x.turn(0, 48), 3);
    due(x.isBroken(0), true);
    due(x.isBroken(1), false);
    due(place(x, 2), "3/1");
    due(x.turn(0, 48), 1);
    due(worn(x, 1), "3/1");
    due(x.freedom(), 1);
    due(x.driver(1), 0);
    throwing(UNSUPPORTED, x, () -> x.turn(1, 1));
    due(x.isSound(), true);
  }

  private static void repair() {
    promise = 18;
    Linkwright x = shop(4);
    for (int i = 1; i < 4; i++) x.link('i', 0, i, 6, 6);
    throwing(INDEX, x, () -> x.repair(3));
    throwing(INDEX, x, () -> x.repair(-1));
    throwing(UNSUPPORTED, x, () -> x.repair(0));
    for (int i = 0; i < 3; i++) x.life(i, 1);
    x.turn(0, 36);
    due(x.repair(1), 2);
    throwing(UNSUPPORTED, x, () -> x.repair(1));
    due(worn(x, 1), "0/1");
    due(worn(x, 0), "3/2");
    due(x.turn(0, 24), 2);
    due(x.isBroken(1), false);
    due(place(x, 2), "5/2");
    due(x.repair(0), 1);
    due(x.repair(2), 0);
    due(x.isSound(), true);
  }

  private static void repairRatchet() {
    promise = 18;
    Linkwright x = shop(2);
    x.link('r', 0, 1, 3, 0);
    x.life(0, 1);
    x.turn(0, 26);
    due(place(x, 1), "1/1");
    x.turn(0, -48);
    x.life(0, 0);
    x.repair(0);
    due(x.turn(0, 24), 2);
    due(place(x, 1), "2/1");
    due(x.isSound(), true);
    Linkwright y = shop(2);
    y.link('r', 0, 1, 3, 0);
    y.life(0, 1);
    y.turn(0, 25);
    y.turn(0, 48);
    y.repair(0);
    due(place(y, 1), "1/1");
    due(y.turn(0, 6), 1);
    due(y.turn(0, 1), 2);
    due(place(y, 1), "4/3");
  }

  private static void slackOf() {
    Linkwright x = shop(10);
    x.link('g', 0, 1, 12, 24);
    x.link('i', 1, 2, 10, 6);
    x.planets(1, 2, 3, 6, 12);
    x.link('v', 4, 5, 4, 0);
    x.link('v', 5, 6, 4, 0);
    Linkwright gears = shop(3);
    gears.link('g', 0, 1, 6, 6);
    gears.link('g', 1, 2, 6, 9);
    gears.slack(0, 9);
    due(slackOf(gears, 2), "6/1");
    x.link('r', 6, 7, 5, 0);
    x.link('k', 4, 8, 0, 0);
    x.link('k', 8, 9, 0, 0);
    for (int i = 0; i < 9 - 1; i++) x.slack(i, 10 + i);
    for (int k = 19; k <= 20; k++) {
      promise = k;
      due(slackOf(x, 0), "0/1");
      due(slackOf(x, 1), "10/1");
      due(slackOf(x, 2), "83/3");
      due(slackOf(x, 3), "304/9");
      due(slackOf(x, 5), "13/1");
      due(slackOf(x, 6), "69/4");
      due(slackOf(x, 7), "129/4");
      due(slackOf(x, 9), "33/1");
    }
    x.engage(6, false);
    x.life(0, 1);
    x.turn(0, 48);
    due(x.isBroken(0), true);
    due(slackOf(x, 2), "83/3");
    due(slackOf(x, 9), "33/1");
    promise = 19;
    throwing(INDEX, x, () -> x.slackOfOver(10));
    throwing(INDEX, x, () -> x.slackOfOver(-1));
    promise = 20;
    throwing(INDEX, x, () -> x.slackOfUnder(10));
    throwing(INDEX, x, () -> x.slackOfUnder(-1));
  }

  private static void cam() {
    promise = 21;
    Linkwright x = shop(2);
    throwing(INDEX, x, () -> x.cam(2));
    for (int i = 0; i < 8; i++) due(x.cam(i % 2), i);
    throwing(INDEX, x, () -> x.cam(-1));
    throwing(STATE, x, () -> x.cam(0));
    due(x.clear(7), 0);
  }

  private static void segment() {
    promise = 22;
    Linkwright x = shop(1);
    x.cam(0);
    throwing(INDEX, x, () -> x.segment(1, 0, 0, 'z'));
    throwing(INDEX, x, () -> x.segment(-1, 1, 0, 'u'));
    throwing(ARGUMENT, x, () -> x.segment(0, 0, 0, 'u'));
    throwing(ARGUMENT, x, () -> x.segment(0, 25, 0, 'u'));
    throwing(ARGUMENT, x, () -> x.segment(0, HIGH, 0, 'u'));
    throwing(ARGUMENT, x, () -> x.segment(0, 1, -1, 'u'));
    throwing(ARGUMENT, x, () -> x.segment(0, 1, 100, 'u'));
    throwing(ARGUMENT, x, () -> x.segment(0, 1, 0, 'z'));
    due(x.segment(0, 20, 99, 'u'), 20);
    throwing(ARGUMENT, x, () -> x.segment(0, 24, 0, 'x'));
    throwing(UNSUPPORTED, x, () -> x.segment(0, 5, 0, 'p'));
    due(x.segment(0, 4, 0, 'p'), 24);
    throwing(UNSUPPORTED, x, () -> x.segment(0, 1, 0, 'p'));
    due(x.clear(0), 2);
    for (int i = 1; i <= 24; i++) due(x.segment(0, 1, i, 'u'), i);
    throwing(UNSUPPORTED, x, () -> x.segment(0, 24, 0, 'p'));
    due(x.clear(0), 24);
    due(x.segment(0, 24, 5, 'u'), 24);
    due(height(x, 0), "5/1");
  }

  private static void clear() {
    promise = 23;
    Linkwright x = shop(1);
    x.cam(0);
    x.cam(0);
    throwing(INDEX, x, () -> x.clear(2));
    throwing(INDEX, x, () -> x.clear(-1));
    due(x.clear(0), 0);
    x.segment(0, 3, 3, 'u');
    x.segment(0, 3, 4, 'u');
    x.segment(1, 24, 4, 'u');
    x.wish(0, 5, 6);
    due(x.clear(0), 2);
    due(x.clear(0), 0);
    due(x.wish(0, 0, 6), 2);
    due(height(x, 1), "4/1");
  }

  private static void heights() {
    Linkwright x = shop(2);
    x.cam(0);
    promise = 24;
    throwing(INDEX, x, () -> x.heightOver(1));
    throwing(INDEX, x, () -> x.heightOver(-1));
    throwing(UNSUPPORTED, x, () -> x.heightOver(0));
    promise = 25;
    throwing(INDEX, x, () -> x.heightUnder(1));
    throwing(UNSUPPORTED, x, () -> x.heightUnder(0));
    x.segment(0, 7, 14, 'p');
    x.segment(0, 5, 3, 'u');
    x.segment(0, 11, 7, 'p');
    throwing(UNSUPPORTED, x, () -> x.heightOver(0));
    x.segment(0, 1, 9, 'u');
    String[] all = {"9/1", "451/49", "481/49", "531/49", "596/49", "646/49", "676/49", "14/1", "59/5", "48/5", "37/5", "26/5",
      "3/1", "371/121", "395/121", "435/121", "491/121", "563/121", "647/121", "719/121", "775/121", "815/121", "839/121", "7/1"};
    for (int part = 0; part < 24; part++) {
      promise = 24;
      due(height(x, 0), all[part]);
      x.turn(0, 1);
    }
    due(height(x, 0), "9/1");
    x.turn(0, -1);
    x.turn(0, -24);
    due(height(x, 0), "7/1");
    x.turn(0, -23);
    due(height(x, 0), "9/1");
    Linkwright y = shop(2);
    y.link('g', 0, 1, 6, 7);
    y.cam(1);
    y.segment(0, 23, 0, 'u');
    y.segment(0, 1, 50, 'u');
    y.turn(0, 1);
    due(height(y, 0), "0/1");
    y.turn(0, -1);
    due(height(y, 0), "50/1");
  }

  private static void steeps() {
    Linkwright x = shop(1);
    x.cam(0);
    promise = 26;
    throwing(INDEX, x, () -> x.steepOver(1));
    throwing(INDEX, x, () -> x.steepOver(-1));
    throwing(UNSUPPORTED, x, () -> x.steepOver(0));
    promise = 27;
    throwing(INDEX, x, () -> x.steepUnder(1));
    throwing(UNSUPPORTED, x, () -> x.steepUnder(0));
    x.segment(0, 24, 50, 'p');
    due(steep(x, 0), "0/1");
    x.clear(0);
    x.segment(0, 9, 12, 'p');
    x.segment(0, 15, 0, 'u');
    due(steep(x, 0), "8/3");
    x.clear(0);
    x.segment(0, 9, 12, 'u');
    x.segment(0, 15, 0, 'p');
    due(steep(x, 0), "8/5");
    x.clear(0);
    x.segment(0, 23, 99, 'u');
    x.segment(0, 1, 0, 'p');
    due(steep(x, 0), "198/1");
  }

  private static void wish() {
    promise = 28;
    Linkwright x = shop(1);
    x.cam(0);
    throwing(INDEX, x, () -> x.wish(1, -1, -2));
    throwing(INDEX, x, () -> x.wish(-1, 0, 0));
    throwing(ARGUMENT, x, () -> x.wish(0, -1, 0));
    throwing(ARGUMENT, x, () -> x.wish(0, 24, 0));
    throwing(ARGUMENT, x, () -> x.wish(0, 0, -2));
    throwing(ARGUMENT, x, () -> x.wish(0, 0, 100));
    due(x.wish(0, 23, 99), 1);
    due(x.wish(0, 23, 98), 1);
    due(x.wish(0, 0, 0), 2);
    due(x.wish(0, 5, -1), 2);
    due(x.wish(0, 23, -1), 1);
    due(x.wish(0, 0, -1), 0);
  }

  private static void make() {
    promise = 29;
    Linkwright x = shop(1);
    x.cam(0);
    throwing(INDEX, x, () -> x.make(1, 'z', 0));
    throwing(ARGUMENT, x, () -> x.make(0, 'z', 5));
    throwing(ARGUMENT, x, () -> x.make(0, 'u', 0));
    throwing(ARGUMENT, x, () -> x.make(0, 'u', 100));
    throwing(MISSING, x, () -> x.make(0, 'u', 99));
    x.wish(0, 12, 36);
    throwing(MISSING, x, () -> x.make(0, 'u', 1));
    x.wish(0, 0, 0);
    throwing(UNSUPPORTED, x, () -> x.make(0, 'u', 2));
    throwing(UNSUPPORTED, x, () -> x.make(0, 'p', 5));
    throwing(UNSUPPORTED, x, () -> x.heightOver(0));
    due(x.make(0, 'p', 6), 2);
    due(steep(x, 0), "6/1");
    x.turn(0, 3);
    due(height(x, 0), "9/2");
    due(x.make(0, 'u', 3), 2);
    due(height(x, 0), "9/1");
    x.wish(0, 23, 20);
    throwing(UNSUPPORTED, x, () -> x.make(0, 'u', 19));
    due(height(x, 0), "9/1");
    due(x.make(0, 'u', 20), 3);
    due(steep(x, 0), "20/1");
    x.wish(0, 12, -1);
    x.wish(0, 23, -1);
    due(x.make(0, 'p', 1), 1);
    due(height(x, 0), "0/1");
    due(x.clear(0), 1);
    for (int i = 0; i < 24; i++) x.wish(0, i, i % 2);
    due(x.make(0, 'u', 1), 24);
    due(steep(x, 0), "1/1");
    due(height(x, 0), "1/1");
    due(x.wish(0, 3, -1), 23);
    Linkwright y = shop(1);
    y.cam(0);
    y.wish(0, 0, 0);
    y.wish(0, 2, 50);
    throwing(UNSUPPORTED, y, () -> y.make(0, 'u', 24));
    due(y.make(0, 'u', 25), 2);
  }

  private static void drum() {
    promise = 30;
    Linkwright x = shop(1);
    throwing(INDEX, x, () -> x.drum(1));
    for (int i = 0; i < 4; i++) due(x.drum(0), i);
    throwing(INDEX, x, () -> x.drum(-1));
    throwing(STATE, x, () -> x.drum(0));
    due(x.pin(3, 0, 0, true), false);
  }

  private static void pin() {
    promise = 31;
    Linkwright x = shop(1);
    x.drum(0);
    x.drum(0);
    throwing(INDEX, x, () -> x.pin(2, -1, 0, true));
    throwing(INDEX, x, () -> x.pin(-1, 0, 0, true));
    throwing(ARGUMENT, x, () -> x.pin(0, -1, 0, true));
    throwing(ARGUMENT, x, () -> x.pin(0, 24, 0, true));
    throwing(ARGUMENT, x, () -> x.pin(0, 0, -1, true));
    throwing(ARGUMENT, x, () -> x.pin(0, 0, 8, true));
    due(x.pin(0, 23, 7, false), false);
    due(x.pin(0, 23, 7, true), false);
    due(x.pin(0, 23, 7, true), true);
    due(x.pin(0, 23, 6, true), false);
    due(x.pin(1, 23, 7, true), false);
    due(x.pin(0, 23, 7, false), true);
    due(x.pin(0, 23, 7, false), false);
    due(x.pin(0, 23, 6, false), true);
  }

  private static void struck() {
    promise = 32;
    Linkwright x = shop(2);
    x.drum(0);
    x.pin(0, 0, 0, true);
    x.pin(0, 3, 0, true);
    x.pin(0, 3, 5, true);
    throwing(INDEX, x, () -> x.struck(1, -1));
    throwing(INDEX, x, () -> x.struck(-1, 0));
    throwing(ARGUMENT, x, () -> x.struck(0, -1));
    throwing(ARGUMENT, x, () -> x.struck(0, 8));
    x.turn(0, 2);
    due(x.struck(0, 0), 0);
    x.turn(0, 1);
    due(x.struck(0, 0), 1);
    due(x.struck(0, 5), 1);
    x.turn(0, -1);
    due(x.struck(0, 0), 2);
    x.turn(0, -2);
    due(x.struck(0, 0), 2);
    x.turn(0, -1);
    due(x.struck(0, 0), 3);
    x.turn(0, 1);
    due(x.struck(0, 0), 4);
    x.turn(0, 48);
    due(x.struck(0, 0), 8);
    due(x.struck(0, 5), 4);
    x.turn(1, 48);
    due(x.struck(0, 0), 8);
    due(x.struck(0, 1), 0);
    due(x.struck(0, 7), 0);
  }

  private static void struckByFastShaft() {
    promise = 32;
    Linkwright x = shop(4);
    x.link('i', 0, 1, 30, 6);
    x.link('i', 1, 2, 30, 6);
    x.link('g', 0, 3, 6, 12);
    x.drum(2);
    x.drum(3);
    for (int i = 0; i < 24; i++) x.pin(0, i, 1, true);
    x.pin(0, 0, 2, true);
    x.pin(0, 1, 3, true);
    x.pin(1, 23, 0, true);
    x.turn(0, 1);
    due(x.struck(0, 1), 25);
    due(x.struck(0, 2), 1);
    due(x.struck(0, 3), 2);
    due(x.struck(1, 0), 0);
    x.turn(0, 1);
    due(x.struck(1, 0), 0);
    x.turn(0, -1);
    due(x.struck(1, 0), 0);
    x.turn(0, -1);
    due(x.struck(1, 0), 0);
    x.turn(0, 3);
    due(x.struck(1, 0), 1);
    x.turn(0, -1);
    due(x.struck(1, 0), 2);
    due(x.struck(0, 1), 25 * 8);
  }

  private static void bars() {
    promise = 33;
    Linkwright x = new Linkwright();
    due(x.bars(10, 40, 30, 35), 'c');
    due(x.bars(30, 30, 10, 35), 'r');
    due(x.bars(30, 30, 35, 10), 'd');
    due(x.bars(30, 10, 35, 25), 'o');
    due(x.bars(2, 9, 2, 9), 'e');
    due(x.bars(5, 6, 5, 5), 't');
    due(x.bars(10, 11, 10, 12), 't');
    due(x.bars(5, 9, 5, 10), 't');
    due(x.bars(3, 9, 3, 9), 'e');
    due(x.bars(1, 1, 1, 3), 'x');
    due(x.bars(999, 1, 1, 1), 'x');
    due(x.bars(1, 1, 1, 2), 't');
    due(x.bars(999, 999, 999, 999), 'e');
    due(x.bars(1, 2, 2, 2), 'c');
    due(x.bars(2, 1, 2, 2), 'o');
    due(x.bars(25, 20, 30, 40), 't');
    for (int i = 0; i < 4; i++) {
      for (int bad : new int[] {0, 1000, -1, LOW, HIGH}) {
        int[] n = {5, 5, 5, 5};
        n[i] = bad;
        throwing(ARGUMENT, x, () -> x.bars(n[0], n[1], n[2], n[3]));
        promise = 34;
        throwing(ARGUMENT, x, () -> x.limitOver(n[0], n[1], n[2], n[3], true));
        promise = 35;
        throwing(ARGUMENT, x, () -> x.limitUnder(n[0], n[1], n[2], n[3], false));
        promise = 36;
        throwing(ARGUMENT, x, () -> x.angleOver(n[0], n[1], n[2], n[3], true));
        promise = 37;
        throwing(ARGUMENT, x, () -> x.angleUnder(n[0], n[1], n[2], n[3], false));
        promise = 33;
      }
    }
  }

  private static void limits() {
    Linkwright x = new Linkwright();
    promise = 34;
    due(x.limitOver(10, 40, 30, 35, true), -5L);
    due(x.limitOver(10, 40, 30, 35, false), 7L);
    due(x.limitOver(3, 2, 4, 3, true), 0L);
    due(x.limitOver(3, 2, 4, 4, false), 31L);
    throwing(MISSING, x, () -> x.limitOver(10, 10, 30, 35, false));
    throwing(MISSING, x, () -> x.limitOver(30, 35, 30, 35, true));
    throwing(MISSING, x, () -> x.limitOver(30, 36, 30, 35, true));
    throwing(MISSING, x, () -> x.limitOver(35, 40, 30, 35, false));
    throwing(MISSING, x, () -> x.limitOver(36, 40, 30, 35, false));
    promise = 35;
    due(x.limitUnder(10, 40, 30, 35, true), 28L);
    due(x.limitUnder(10, 40, 30, 35, false), 12L);
    due(x.limitUnder(3, 2, 4, 3, true), 1L);
    throwing(MISSING, x, () -> x.limitUnder(10, 10, 30, 30, false));
  }

  private static void angles() {
    Linkwright x = new Linkwright();
    promise = 36;
    due(x.angleOver(10, 40, 30, 35, false), 25L);
    due(x.angleOver(10, 40, 30, 35, true), 19L);
    due(x.angleOver(2, 3, 4, 3, true), 0L);
    throwing(MISSING, x, () -> x.angleOver(35, 40, 30, 35, false));
    throwing(MISSING, x, () -> x.angleOver(35, 40, 30, 35, true));
    throwing(MISSING, x, () -> x.angleOver(10, 40, 30, 20, false));
    promise = 37;
    due(x.angleUnder(10, 40, 30, 35, false), 32L);
    due(x.angleUnder(10, 40, 30, 35, true), 96L);
    due(x.angleUnder(2, 3, 4, 3, true), 1L);
    throwing(MISSING, x, () -> x.angleUnder(7, 40, 30, 7, false));
  }

  private static void teeth() {
    promise = 38;
    Linkwright x = new Linkwright();
    due(x.teeth(1, 1, true), 6);
    due(x.teeth(1, 1, false), 6);
    due(x.teeth(22, 7, true), 22);
    due(x.teeth(22, 7, false), 7);
    due(x.teeth(9999, 1, true), 30);
    due(x.teeth(9999, 1, false), 6);
    due(x.teeth(1, 9999, true), 6);
    due(x.teeth(1, 9999, false), 30);
    due(x.teeth(13, 60, true), 6);
    due(x.teeth(13, 60, false), 28);
    throwing(ARGUMENT, x, () -> x.teeth(0, 1, true));
    throwing(ARGUMENT, x, () -> x.teeth(1, 0, true));
    throwing(ARGUMENT, x, () -> x.teeth(10000, 1, true));
    throwing(ARGUMENT, x, () -> x.teeth(1, 10000, false));
    throwing(ARGUMENT, x, () -> x.teeth(LOW, HIGH, false));
  }

  private static void pairs() {
    promise = 39;
    Linkwright x = new Linkwright();
    due(x.pairs(1, 2), 10);
    due(x.pairs(6, 30), 1);
    due(x.pairs(7, 1), 0);
    due(x.pairs(9999, 9999), 25);
    due(x.pairs(30, 29), 1);
    due(x.pairs(31, 30), 0);
    throwing(ARGUMENT, x, () -> x.pairs(0, 1));
    throwing(ARGUMENT, x, () -> x.pairs(1, 0));
    throwing(ARGUMENT, x, () -> x.pairs(10000, 1));
    throwing(ARGUMENT, x, () -> x.pairs(1, 10000));
  }

  private static void checksum() {
    promise = 40;
    Linkwright x = shop(2);
    due(x.checksum(), (((7L * 31) * 31 + 1) * 31) * 31 + 1);
    x.turn(1, -5);
    long sum = (((7L * 31) * 31 + 1) * 31 - 5) * 31 + 24;
    due(x.checksum(), sum);
    x.drum(0);
    x.drum(1);
    x.pin(1, 0, 2, true);
    x.turn(1, 5);
    x.turn(1, -5);
    for (int i = 0; i < 16; i++) sum = sum * 31 + (i == 10 ? 2 : 0);
    due(x.checksum(), sum);
  }

  private static void drivenShare() {
    promise = 41;
    Linkwright x = new Linkwright();
    throwing(ARITHMETIC, x, () -> x.drivenShare());
    x.shaft();
    due(x.drivenShare(), 0.0f);
    x.shaft();
    x.shaft();
    x.link('k', 0, 1, 0, 0);
    due(x.drivenShare(), 1.0f / 3.0f);
    x.engage(0, false);
    due(x.drivenShare(), 1.0f / 3.0f);
  }

  private static void meanWorn() {
    promise = 42;
    Linkwright x = shop(4);
    throwing(ARITHMETIC, x, () -> x.meanWorn());
    x.link('k', 0, 1, 0, 0);
    due(x.meanWorn(), 0.0);
    x.link('g', 1, 2, 6, 7);
    x.link('g', 2, 3, 6, 7);
    x.turn(0, 5);
    due(x.meanWorn(), (5.0 / 24.0 + 5.0 / 24.0 + 5.0 / 28.0) / 3.0);
  }

  private static void isSound() {
    promise = 43;
    Linkwright x = shop(6);
    due(x.isSound(), true);
    x.link('g', 0, 1, 7, 11);
    x.link('r', 1, 2, 5, 0);
    x.link('v', 0, 3, 3, 0);
    x.link('k', 1, 4, 0, 0);
    x.life(0, 1);
    x.life(1, 1);
    for (int i = 0; i < 6; i++) {
      x.turn(0, i % 2 == 0 ? 48 : -31);
      due(x.isSound(), true);
      due(x.isSound(), true);
      x.engage(3, i % 2 == 0);
      due(x.isSound(), true);
      for (int k = 0; k < 2; k++) if (x.isBroken(k)) x.repair(k);
      due(x.isSound(), true);
    }
    x.link('k', 5, 0, 0, 0);
    x.shaft();
    due(x.isSound(), true);
    due(x.turn(5, 7) > 1, true);
    due(x.isSound(), true);
    x.cam(0);
    x.segment(0, 12, 7, 'p');
    due(x.isSound(), true);
    x.segment(0, 12, 9, 'p');
    due(x.isSound(), true);
  }
}
