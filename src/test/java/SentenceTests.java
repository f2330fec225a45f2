/** A test for each sentence of the document that names no boundary case, and that BoundaryTests does not quote. */
final class SentenceTests extends DocumentRuns {
  private static final String SHAFT = "`shaft`: the shaft";
  private static final String LINK = "`link`: the link";
  private static final String CAM = "`cam`: the cam";
  private static final String LAW = "`law`: the law";
  private static final String DRUM = "`drum`: the drum";
  private static final String ITS_NUMBER = "Returns its number.";
  private static final String THE_NUMBER = "Returns the number.";

  static void all() {
    whatItIs(); shaft(); link(); linkNumbers(); planets(); engage(); life(); slack(); turn(); gears();
    place(); ratio(); driver(); freedom(); worn(); isBroken(); repair(); slackOf();
    cam(); segment(); clear(); height(); steep(); wish(); make(); drum(); pin(); struck();
    bars(); limit(); angle(); teeth(); pairs(); sums();
  }

  /** For the two promises of a fraction: the first one is about its upper number, the next one about its lower one. */
  private static void numbers(int promise, String what, String... runs) {
    check(promise, "Returns the upper number of " + what, runs);
    check(promise + 1, "Returns the lower number of " + what, runs);
  }

  private static void whatItIs() {
    check(1, "A shop of moving works: shafts with gears, planets, genevas, ratchets and clutches, cams with laws, drums with pins, four"
            + " bars that turn or rock, wear, slack, wishes that become cams, and teeth that are chosen for a ratio.",
        shopOfKinds() + "cam(2) = 0; segment(0,12,12,'p') = 12; segment(0,12,0,'u') = 24; drum(3) = 0; pin(0,1,1,true) = false;"
            + "turn(0,25) = 7; place(2) = -25/24; place(3) = 25/24; place(4) = 1/3; place(5) = 1/1; place(6) = 25/24; place(7) = 25/48;"
            + "struck(0,1) = 2; height(0) = 1/1; worn(0) = 25/24; slack(0,7) = 0; slackOf(2) = 7/1; bars(2,6,5,4) = 'c';"
            + "wish(0,0,3) = 1; make(0,'u',1) = 1; height(0) = 3/1; teeth(5,1,true) = 30; isSound() = true");
  }

  // Promises 2 to 7

  private static void shaft() {
    check(2, "Adds a shaft.",
        "freedom() = 0; place(0) throws Index; shaft() = 0; freedom() = 1; place(0) = 0/1; turn(0,5) = 1; shaft() = 1; freedom() = 2;"
            + "place(0) = 5/24; place(1) = 0/1; driver(1) throws Missing; turn(1,-1) = 1; place(1) = -1/24; place(0) = 5/24");
  }

  private static void link() {
    check(3, "Adds a link.",
        shop(3) + "isBroken(0) throws Index; driver(2) throws Missing; turn(0,1) = 1; link('k',0,2,0,0) = 0; isBroken(0) = false;"
            + "worn(0) = 0/1; driver(2) = 0; freedom() = 2; place(2) = 0/1; turn(0,1) = 2; place(2) = 1/24; place(1) = 0/1",
        shop(4) + "turn(0,31); link('g',0,1,6,6); link('v',0,2,3,0); link('r',0,3,3,0); place(1) = 0/1; place(2) = 0/1; place(3) = 0/1;"
            + "meanWorn() = 0.0; slackOf(1) = 0/1");
    check(3, "`kind`: the kind",
        shop(6) + "link('g',0,1,12,6); link('i',0,2,12,6); link('v',0,3,12,0); link('r',0,4,12,0); link('k',0,5,0,0); turn(0,-24) = 5;"
            + "place(1) = 2/1; place(2) = -2/1; place(3) = -1/12; place(4) = 0/1; place(5) = -1/1; turn(0,36) = 6; place(1) = -1/1;"
            + "place(2) = 1/1; place(3) = 0/1; place(4) = 1/2; place(5) = 1/2");
    check(3, "`from`: the shaft from which",
        shop(4) + "link('k',2,1,0,0) = 0; turn(0,1) = 1; turn(3,1) = 1; turn(2,1) = 2; place(1) = 1/24; worn(0) = 1/24;"
            + "ratio(1,2) = 1/1; ratio(1,0) = 0/1");
    check(3, "`to`: the shaft that it drives",
        shop(4) + "link('k',1,2,0,0) = 0; driver(2) = 0; driver(0) throws Missing; driver(1) throws Missing; driver(3) throws Missing;"
            + "turn(2,1) throws Unsupported; turn(1,1) = 2; place(2) = 1/24; place(3) = 0/1; place(0) = 0/1");
  }

  private static void linkNumbers() {
    check(3, "`a`: a",
        shop(5) + "link('g',0,1,7,11); link('i',0,2,8,30); link('v',0,3,5,0); link('r',0,4,6,0); turn(0,4) = 4; place(4) = 1/6;"
            + "turn(0,20) = 5; place(1) = -7/11; place(2) = 4/15; place(3) = 1/5; place(4) = 1/1");
    check(3, "`b`: b",
        shop(4) + "link('g',0,1,7,11); link('g',0,2,7,13); link('i',0,3,7,17); turn(0,-24) = 4; place(1) = 7/11; place(2) = 7/13;"
            + "place(3) = -7/17");
  }

  private static void planets() {
    check(4, "Adds planets.",
        shop(4) + "freedom() = 4; planets(0,1,3,7,11) = 0; freedom() = 3; driver(3) = 0; driver(2) throws Missing; worn(0) = 0/1;"
            + "turn(0,18) = 2; place(3) = 7/24; turn(1,18) = 2; place(3) = 3/4; worn(0) = 3/2");
    check(4, "`sun`: the sun", shop(4) + "planets(2,1,3,6,12); turn(2,24) = 2; place(3) = 1/3; turn(0,24) = 1; place(3) = 1/3");
    check(4, "`ring`: the ring", shop(4) + "planets(1,2,3,6,12); turn(2,24) = 2; place(3) = 2/3; turn(0,24) = 1; place(3) = 2/3");
    check(4, "`to`: the shaft that they drive",
        shop(4) + "planets(3,1,0,6,12); driver(0) = 0; driver(1) throws Missing; driver(2) throws Missing; driver(3) throws Missing;"
            + "turn(0,1) throws Unsupported; turn(2,24) = 1; turn(3,24) = 2; place(0) = 1/3");
    check(4, "`a`: the teeth of the sun",
        shop(4) + "planets(0,1,2,7,23); planets(0,1,3,30,6); turn(0,24) = 3; place(2) = 7/30; place(3) = 5/6");
    check(4, "`b`: the teeth of the ring",
        shop(4) + "planets(0,1,2,7,23); planets(0,1,3,30,6); turn(1,24) = 3; place(2) = 23/30; place(3) = 1/6");
  }

  private static void engage() {
    check(5, "Engages a clutch, or lets it go.",
        shop(2) + "link('k',0,1,0,0); turn(0,1) = 2; engage(0,false) = true; turn(0,1) = 1; place(1) = 1/24; engage(0,true) = false;"
            + "place(1) = 1/24; turn(0,1) = 2; place(1) = 1/12; worn(0) = 1/12");
    check(5, LINK,
        shopOfClutches(3) + "engage(1,false) = true; turn(0,1) = 3; place(1) = 1/24; place(2) = 0/1; place(3) = 1/24;"
            + "engage(0,false) = true; engage(1,true) = false; turn(0,1) = 3; place(1) = 1/24; place(2) = 1/24; place(3) = 1/12");
    check(5, "`is`: whether it is engaged then",
        shop(2) + "link('k',0,1,0,0); engage(0,true); turn(0,1) = 2; engage(0,false); turn(0,1) = 1; engage(0,false); turn(0,1) = 1;"
            + "engage(0,true); turn(0,1) = 2");
  }

  private static void life() {
    check(6, "Tells the life of a link.",
        shop(2) + "link('k',0,1,0,0); turn(0,48); isBroken(0) = false; life(0,2) = 0; turn(0,0); isBroken(0) = false; turn(0,1);"
            + "isBroken(0) = true; place(1) = 49/24; worn(0) = 49/24");
    check(6, LINK,
        shopOfClutches(3) + "life(1,1) = 0; turn(0,25); isBroken(0) = false; isBroken(1) = true; isBroken(2) = false; life(1,0) = 1;"
            + "life(0,0) = 0; life(2,0) = 0");
  }

  private static void slack() {
    check(7, "Tells the slack of a link.",
        shop(2) + "link('k',0,1,0,0); slackOf(1) = 0/1; slack(0,7) = 0; slackOf(1) = 7/1; turn(0,1) = 2; place(1) = 1/24;"
            + "ratio(1,0) = 1/1; slackOf(1) = 7/1");
    check(7, LINK,
        shopOfClutches(3) + "slack(1,5) = 0; slackOf(1) = 0/1; slackOf(2) = 5/1; slackOf(3) = 0/1; slack(0,1) = 0; slack(2,1) = 0;"
            + "slack(1,1) = 5");
    check(7, "`thousandths`: the slack",
        shop(3) + "link('k',0,1,0,0); link('k',1,2,0,0); slack(0,1) = 0; slack(1,98) = 0; slackOf(2) = 99/1; slack(0,50) = 1;"
            + "slackOf(2) = 148/1; slack(0,0) = 50; slackOf(2) = 98/1");
  }

  // Promise 8

  private static void turn() {
    check(8, "Turns an input.",
        shop(2) + "link('k',0,1,0,0); turn(0,10) = 2; place(0) = 5/12; place(1) = 5/12; turn(0,-20) = 2; place(0) = -5/12;"
            + "place(1) = -5/12; turn(0,10) = 2; place(0) = 0/1");
    check(8, SHAFT,
        shop(4) + "link('k',1,3,0,0); turn(1,3) = 2; turn(2,-5) = 1; turn(0,7) = 1; place(0) = 7/24; place(1) = 1/8; place(2) = -5/24;"
            + "place(3) = 1/8");
  }

  private static void gears() {
    check(8, "'g' gears with teeth a and b, 6 to 30 each, the other one turns a divided by b as much, the other way round;",
        shop(2) + "link('g',0,1,9,15); turn(0,24) = 2; place(1) = -3/5; turn(0,-48) = 2; place(1) = 3/5",
        shop(3) + "link('g',0,1,9,15); link('g',1,2,15,9); turn(0,7) = 3; place(1) = -7/40; place(2) = 7/24");
    check(8, "'i' an inner gear, likewise, the same way round;",
        shop(2) + "link('i',0,1,9,15); turn(0,24) = 2; place(1) = 3/5; turn(0,-48) = 2; place(1) = -3/5",
        shop(3) + "link('g',0,1,9,15); link('i',1,2,15,9); turn(0,7) = 3; place(1) = -7/40; place(2) = -7/24");
  }

  // Promises 9 to 14

  private static void place() {
    String some = shop(4) + "link('g',0,1,6,28); turn(0,5); turn(2,-8);";
    numbers(9, "the place of a shaft.", some + "place(0) = 5/24; place(1) = -5/112; place(2) = -1/3; place(3) = 0/1");
    pair(9, SHAFT, some + "turn(3,11); place(3) = 11/24; place(2) = -1/3; place(1) = -5/112; place(0) = 5/24");
    pair(9, THE_NUMBER, some + "place(1) = -5/112; place(1) = -5/112; turn(0,-5); place(1) = 0/1; turn(0,-1); place(1) = 1/112");
  }

  private static void ratio() {
    String some = shop(6) + "link('g',0,2,6,28); link('i',1,3,10,12); planets(2,3,4,7,8);";
    numbers(11, "how much a shaft turns, as things are, as an input turns once.",
        some + "ratio(2,0) = -3/14; ratio(3,1) = 5/6; ratio(4,0) = -1/10; ratio(4,1) = 4/9; turn(0,24) = 3; placeOver(4) = -1;"
            + "placeUnder(4) = 10; turn(0,-24) = 3; turn(1,24) = 3; placeOver(4) = 4; placeUnder(4) = 9",
        shop(3) + "link('k',0,1,0,0); link('g',1,2,6,7); ratio(2,0) = -6/7; engage(0,false); ratio(2,0) = 0/1; ratio(1,0) = 0/1;"
            + "engage(0,true); ratio(2,0) = -6/7",
        shop(4) + "link('g',0,1,6,7); link('k',0,2,0,0); planets(1,2,3,6,9); ratio(3,0) = 9/35; life(0,1); turn(0,25); isBroken(0) = true;"
            + "ratio(3,0) = 3/5; engage(1,false); ratio(3,0) = 0/1; repair(0); ratio(3,0) = -12/35");
    pair(11, SHAFT, some + "ratio(0,0) = 1/1; ratio(2,0) = -3/14; ratio(3,0) = 0/1; ratio(4,0) = -1/10; ratio(5,0) = 0/1");
    pair(11, "`input`: the input", some + "ratio(4,0) = -1/10; ratio(4,1) = 4/9; ratio(4,5) = 0/1; ratio(2,1) = 0/1; ratio(5,5) = 1/1");
    pair(11, THE_NUMBER, some + "ratio(4,1) = 4/9; turn(0,7) = 3; turn(1,-9) = 3; ratio(4,1) = 4/9; ratio(4,0) = -1/10");
  }

  private static void driver() {
    check(13, "Returns the link that drives a shaft.",
        shop(4) + "link('k',0,3,0,0) = 0; link('g',3,1,6,6) = 1; driver(3) = 0; driver(1) = 1; driver(0) throws Missing;"
            + "driver(2) throws Missing; planets(0,1,2,6,6) = 2; driver(2) = 2");
    check(13, SHAFT,
        shop(5) + "link('k',4,2,0,0); link('k',4,0,0,0); link('k',4,1,0,0); driver(0) = 1; driver(1) = 2; driver(2) = 0;"
            + "driver(3) throws Missing; driver(4) throws Missing");
    check(13, "Returns the link.",
        shop(3) + "link('k',0,2,0,0); link('k',0,1,0,0); driver(1) = 1; engage(1,false); driver(1) = 1; life(0,1); turn(0,25);"
            + "isBroken(0) = true; driver(2) = 0; repair(0); driver(2) = 0");
  }

  private static void freedom() {
    check(14, "Returns how many.",
        shop(2) + "freedom() = 2; link('k',0,1,0,0); engage(0,false); freedom() = 1; engage(0,true); life(0,1); turn(0,25);"
            + "isBroken(0) = true; freedom() = 1; shaft(); freedom() = 2");
  }

  // Promises 15 to 20

  private static void worn() {
    String some = shop(5) + "link('g',0,2,6,28); link('i',2,3,10,12); planets(2,1,4,7,8); turn(0,8) = 4; turn(1,-3) = 2;";
    numbers(15, "how much a link is worn.", some + "worn(0) = 1/3; worn(1) = 1/14; worn(2) = 11/56");
    pair(15, LINK, some + "turn(0,-8) = 4; worn(2) = 15/56; worn(1) = 1/7; worn(0) = 2/3");
    pair(15, THE_NUMBER, some + "worn(2) = 11/56; worn(2) = 11/56; turn(1,3); worn(2) = 9/28; worn(1) = 1/14");
  }

  private static void isBroken() {
    check(17, "Returns whether a link is broken.",
        shopOfClutches(2) + "isBroken(0) = false; isBroken(1) = false; life(1,1); turn(0,25); isBroken(0) = false; isBroken(1) = true;"
            + "repair(1) = 0; isBroken(1) = false");
    check(17, LINK, shopOfClutches(3) + "life(0,1); life(2,1); turn(0,25); isBroken(0) = true; isBroken(1) = false; isBroken(2) = true");
    check(17, "Returns whether it is.",
        shop(2) + "link('k',0,1,0,0); engage(0,false); isBroken(0) = false; engage(0,true); life(0,1); turn(0,25); isBroken(0) = true;"
            + "isBroken(0) = true; engage(0,false); isBroken(0) = true; turn(0,1); isBroken(0) = true");
  }

  private static void repair() {
    check(18, "Repairs a link.",
        shop(2) + "link('k',0,1,0,0); life(0,1); turn(0,25) = 2; turn(0,1) = 1; repair(0) = 0; isBroken(0) = false; turn(0,1) = 2;"
            + "place(0) = 9/8; place(1) = 13/12",
        shop(2) + "link('k',0,1,0,0); life(0,1); slack(0,9); turn(0,25); engage(0,false) = true; repair(0) = 0; turn(0,1) = 1;"
            + "worn(0) = 0/1; engage(0,true) = false; turn(0,1) = 2; slack(0,0) = 9; life(0,0) = 1");
    check(18, LINK,
        shopOfClutches(3) + "life(0,1); life(1,1); life(2,1); turn(0,25) = 4; repair(1) = 2; isBroken(0) = true; isBroken(1) = false;"
            + "isBroken(2) = true; worn(0) = 25/24; worn(1) = 0/1; worn(2) = 25/24; turn(0,1) = 2; place(2) = 13/12; place(1) = 25/24");
  }

  private static void slackOf() {
    String some = shop(5) + "link('g',0,2,6,28); link('i',2,3,10,12); planets(2,1,4,7,8); slack(0,14); slack(1,5); slack(2,3);";
    numbers(19, "the slack of a shaft, in thousandths.", some + "slackOf(2) = 14/1; slackOf(3) = 50/3; slackOf(4) = 143/15");
    pair(19, SHAFT, some + "slackOf(4) = 143/15; slackOf(0) = 0/1; slackOf(3) = 50/3; slackOf(1) = 0/1");
    pair(19, THE_NUMBER,
        some + "slackOf(4) = 143/15; turn(0,48); slackOf(4) = 143/15; slack(2,4) = 3; slackOf(4) = 158/15; slack(0,15) = 14;"
            + "slackOf(4) = 11/1");
  }

  // Promises 21 to 29

  private static void cam() {
    check(21, "Adds a cam without segments.",
        shop(1) + "cam(0) = 0; height(0) throws Unsupported; steep(0) throws Unsupported; clear(0) = 0; wish(0,0,-1) = 0;"
            + "make(0,'u',1) throws Missing; segment(0,24,3,'u') = 24; height(0) = 3/1",
        shop(1) + "turn(0,5); cam(0); segment(0,12,24,'u'); segment(0,12,0,'u'); height(0) = 10/1");
    check(21, SHAFT,
        shop(2) + "turn(0,3); turn(1,7); cam(1) = 0; cam(0) = 1; segment(0,12,12,'u'); segment(0,12,0,'u'); segment(1,12,12,'u');"
            + "segment(1,12,0,'u'); height(0) = 7/1; height(1) = 3/1; turn(1,1); height(0) = 8/1; height(1) = 3/1");
    check(21, ITS_NUMBER, shop(2) + "cam(1) = 0; cam(2) throws Index; cam(0) = 1; cam(1) = 2");
    check(21, "At most 8 cams are numbered from 0, each on a shaft, of segments, each with parts, 1 to 24, a height, 0 to 99, to which it"
            + " goes, and a law:",
        shop(3) + "cam(0) = 0; cam(1) = 1; cam(1) = 2; cam(2) = 3; cam(0) = 4; cam(0) = 5; cam(0) = 6; cam(0) = 7; cam(0) throws State;"
            + "segment(2,23,99,'p') = 23; segment(2,1,0,'u') = 24; segment(3,24,7,'u') = 24; turn(1,23); height(2) = 99/1;"
            + "height(3) = 7/1; turn(1,1); height(2) = 0/1");
  }

  private static void segment() {
    check(22, "Adds a segment.",
        shop(1) + "cam(0); clear(0) = 0; segment(0,24,5,'u') = 24; clear(0) = 1; segment(0,1,0,'p') = 1; segment(0,1,0,'p') = 2;"
            + "clear(0) = 2",
        shop(1) + "cam(0); segment(0,6,6,'u'); segment(0,18,0,'u'); turn(0,3); height(0) = 3/1; turn(0,3); height(0) = 6/1; turn(0,9);"
            + "height(0) = 3/1");
    check(22, CAM, shop(1) + "cam(0); cam(0); segment(1,20,1,'u') = 20; segment(0,4,1,'u') = 4; clear(1) = 1; clear(0) = 1; clear(0) = 0");
    check(22, "`parts`: the parts",
        shop(1) + "cam(0); segment(0,3,9,'u') = 3; segment(0,21,0,'u') = 24; turn(0,1); height(0) = 3/1; turn(0,2); height(0) = 9/1;"
            + "turn(0,7); height(0) = 6/1");
    check(22, "`height`: the height",
        shop(1) + "cam(0); segment(0,12,7,'u'); segment(0,12,31,'u'); height(0) = 31/1; turn(0,12); height(0) = 7/1; turn(0,6);"
            + "height(0) = 19/1");
    String laws = shop(1) + "cam(0); cam(0); segment(0,12,48,'u'); segment(0,12,0,'p'); segment(1,12,48,'p'); segment(1,12,0,'u');";
    check(22, LAW, laws + "turn(0,3); height(0) = 12/1; height(1) = 6/1; turn(0,12); height(0) = 42/1; height(1) = 36/1");
    check(22, "'u' even, or 'p' by squares",
        laws + "turn(0,9); height(0) = 36/1; height(1) = 42/1; turn(0,-12); height(0) = 6/1; height(1) = 12/1");
  }

  private static void clear() {
    check(23, CAM,
        shop(1) + "cam(0); cam(0); cam(0); segment(0,1,1,'u');" + "segment(1,1,1,'u');".repeat(2) + "segment(2,1,1,'u');".repeat(3)
            + "clear(1) = 2; clear(0) = 1; clear(2) = 3; clear(1) = 0");
  }

  /** Two cams on shafts of their own. */
  private static String twoCams() {
    return shop(2) + "cam(0); cam(1); segment(0,10,7,'u'); segment(0,14,0,'u'); segment(1,12,5,'p'); segment(1,12,1,'p');"
        + "turn(0,3); turn(1,5);";
  }

  private static void height() {
    numbers(24, "the height of a cam at its part.", twoCams() + "height(0) = 21/10; height(1) = 43/18");
    pair(24, CAM, twoCams() + "turn(1,-5); height(1) = 1/1; height(0) = 21/10; turn(1,5); turn(0,-3); height(1) = 43/18; height(0) = 0/1");
    pair(24, THE_NUMBER, twoCams() + "height(0) = 21/10; height(0) = 21/10; turn(0,7); height(0) = 7/1; turn(0,9); height(0) = 5/2");
  }

  private static void steep() {
    numbers(26, "how steep a cam is.", twoCams() + "steep(0) = 7/10; steep(1) = 2/3");
    pair(26, CAM, twoCams() + "clear(1) = 2; segment(1,6,9,'p'); segment(1,18,0,'u'); steep(1) = 3/1; steep(0) = 7/10");
    pair(26, THE_NUMBER, twoCams() + "turn(0,11); steep(0) = 7/10; turn(1,11); steep(1) = 2/3; steep(1) = 2/3; clear(0);"
        + "segment(0,16,0,'p'); segment(0,8,6,'u'); steep(0) = 3/4");
  }

  private static void wish() {
    check(28, "Wishes a height, or takes the wish away.",
        shop(1) + "cam(0); wish(0,0,5) = 1; make(0,'u',9) = 1; height(0) = 5/1; wish(0,0,6) = 1; height(0) = 5/1; make(0,'u',9) = 1;"
            + "height(0) = 6/1; wish(0,0,-1) = 0; height(0) = 6/1; make(0,'u',9) throws Missing");
    check(28, CAM,
        shop(1) + "cam(0); cam(0); wish(1,0,7) = 1; wish(0,0,3) = 1; wish(1,12,7) = 2; make(0,'u',1) = 1; make(1,'u',1) = 2;"
            + "height(0) = 3/1; height(1) = 7/1");
    check(28, "`part`: the part",
        shop(1) + "cam(0); wish(0,0,0) = 1; wish(0,17,34) = 2; make(0,'u',5) = 2; turn(0,17); height(0) = 34/1; turn(0,-1);"
            + "height(0) = 32/1; turn(0,2); height(0) = 204/7");
  }

  private static void make() {
    check(29, "Makes a cam by its wishes, in place of its segments.",
        shop(1) + "cam(0); segment(0,24,9,'u'); wish(0,0,4); wish(0,12,16); height(0) = 9/1; make(0,'u',1) = 2; height(0) = 4/1;"
            + "clear(0) = 2; height(0) throws Unsupported; make(0,'u',1) = 2; wish(0,12,-1) = 1; turn(0,12); height(0) = 16/1;"
            + "clear(0) = 2; make(0,'u',1) = 1; height(0) = 4/1",
        shop(1) + "cam(0); segment(0,1,9,'p'); segment(0,1,9,'p'); segment(0,1,9,'p'); wish(0,0,4); make(0,'u',1) = 1; clear(0) = 1");
    check(29, CAM,
        shop(1) + "cam(0); cam(0); wish(0,0,3); wish(1,0,7); wish(1,12,7); make(1,'u',1) = 2; height(0) throws Unsupported;"
            + "height(1) = 7/1; make(0,'u',1) = 1; height(0) = 3/1; clear(1) = 2");
    check(29, LAW,
        shop(1) + "cam(0); cam(0); wish(0,0,0); wish(0,12,48); wish(1,0,0); wish(1,12,48); make(0,'u',8) = 2; make(1,'p',8) = 2;"
            + "turn(0,3); height(0) = 12/1; height(1) = 6/1; steep(0) = 4/1; steep(1) = 8/1; make(0,'p',8) = 2; height(0) = 6/1;"
            + "turn(0,18); height(0) = 6/1; height(1) = 6/1; make(1,'u',8) = 2; height(1) = 12/1");
  }

  // Promises 30 to 32

  private static void drum() {
    check(30, "Adds a drum without pins.",
        shop(1) + "drum(0) = 0; turn(0,48); struck(0,0) = 0; struck(0,7) = 0; pin(0,0,0,false) = false; pin(0,23,7,false) = false",
        shop(1) + "turn(0,5); drum(0) = 0; pin(0,5,1,true) = false; struck(0,1) = 0; turn(0,1); struck(0,1) = 0; turn(0,-2);"
            + "struck(0,1) = 1");
    check(30, SHAFT,
        shop(2) + "drum(1) = 0; drum(0) = 1; pin(0,2,3,true); pin(1,1,3,true); turn(0,1); struck(0,3) = 0; struck(1,3) = 1; turn(1,2);"
            + "struck(0,3) = 1; struck(1,3) = 1");
    check(30, ITS_NUMBER, shop(2) + "drum(1) = 0; drum(2) throws Index; drum(0) = 1; drum(1) = 2");
  }

  private static void pin() {
    check(31, "Puts a pin, or takes it away.",
        shop(1) + "drum(0); pin(0,1,0,true) = false; turn(0,1); struck(0,0) = 1; pin(0,1,0,false) = true; struck(0,0) = 1; turn(0,24);"
            + "struck(0,0) = 1; pin(0,1,0,true) = false; turn(0,24); struck(0,0) = 2");
    check(31, DRUM,
        shop(1) + "drum(0); drum(0); pin(1,1,0,true) = false; pin(0,1,0,true) = false; pin(0,1,0,false) = true; turn(0,1);"
            + "struck(0,0) = 0; struck(1,0) = 1");
    check(31, "`is`: whether there is one then",
        shop(1) + "drum(0); pin(0,1,0,false) = false; turn(0,1); struck(0,0) = 0; turn(0,-1); pin(0,1,0,true) = false; turn(0,1);"
            + "struck(0,0) = 1; pin(0,1,0,true) = true; turn(0,-1); struck(0,0) = 2; pin(0,1,0,false) = true; turn(0,1); struck(0,0) = 2");
  }

  private static void struck() {
    check(32, "Returns how often a track was struck.",
        shop(1) + "drum(0); pin(0,1,4,true); pin(0,2,4,true); pin(0,2,5,true); turn(0,2); struck(0,4) = 2; struck(0,5) = 1;"
            + "struck(0,3) = 0; turn(0,-2); struck(0,4) = 4; struck(0,5) = 2; struck(0,4) = 4");
    check(32, DRUM,
        shop(1) + "drum(0); drum(0); drum(0); pin(1,1,4,true); turn(0,1); struck(0,4) = 0; struck(1,4) = 1; struck(2,4) = 0");
  }

  // Promises 33 to 37

  private static void bars() {
    check(33, "Returns what four bars are.", "bars(2,6,5,4) = 'c'; bars(3,6,5,4) = 'e'; bars(4,6,5,4) = 't'; bars(20,6,5,4) = 'x'");
    check(33, "`crank`: the crank", bar("#,6,5,4", 'c'));
    check(33, "`coupler`: the coupler", bar("6,#,5,4", 'o'));
    check(33, "`follower`: the follower", bar("6,5,#,4", 'r'));
    check(33, "`ground`: the ground", bar("6,5,4,#", 'd'));
    check(33, "Returns the letter.",
        "bars(2,6,5,4) = 'c'; bars(6,5,2,4) = 'r'; bars(4,5,6,2) = 'd'; bars(6,2,4,5) = 'o'; bars(4,3,6,5) = 'e'; bars(4,6,5,4) = 't';"
            + "bars(4,5,6,15) = 'x'");
  }

  /** One of the bars in place of the sign #: the shortest, as long as leads to an even sum, longer, and too long. */
  private static String bar(String others, char letter) {
    int[] lengths = {2, 3, 4, 14, 15};
    char[] letters = {letter, 'e', 't', 't', 'x'};
    StringBuilder all = new StringBuilder();
    for (int i = 0; i < 5; i++) {
      all.append("bars(").append(others.replace("#", String.valueOf(lengths[i]))).append(") = '").append(letters[i]).append("';");
    }
    return all.toString();
  }

  private static void limit() {
    numbers(34, "a limit of four bars.", "limit(2,5,6,7,true) = 3/7; limit(2,5,6,7,false) = 19/21");
    pair(34, "`crank`: the crank", "limit(3,5,6,7,true) = 1/4; limit(3,5,6,7,false) = 27/28");
    pair(34, "`coupler`: the coupler", "limit(2,7,6,7,true) = 1/21; limit(2,7,6,7,false) = 5/7");
    pair(34, "`follower`: the follower", "limit(2,5,5,7,true) = 5/14; limit(2,5,5,7,false) = 13/14");
    pair(34, "`ground`: the ground", "limit(2,5,6,5,true) = 1/5; limit(2,5,6,5,false) = 13/15");
    pair(34, "`isOuter`: whether the sum is a side",
        "limit(2,5,6,7,false) = 19/21; limit(2,5,6,7,true) = 3/7; limit(10,4,6,7,true) throws Missing; limit(10,4,6,7,false) = 7/12");
    pair(34, THE_NUMBER, "limit(6,5,6,7,true) = -3/7; limit(6,5,6,7,true) = -3/7; limit(5,6,7,6,true) = -3/7");
  }

  private static void angle() {
    numbers(36, "the cosine of the angle between coupler and follower.", "angle(2,6,7,5,true) = 3/7; angle(2,6,7,5,false) = 19/21");
    pair(36, "`crank`: the crank", "angle(3,6,7,5,true) = 1/4; angle(3,6,7,5,false) = 27/28");
    pair(36, "`coupler`: the coupler", "angle(2,5,7,5,true) = 5/14; angle(2,5,7,5,false) = 13/14");
    pair(36, "`follower`: the follower", "angle(2,6,5,5,true) = 1/5; angle(2,6,5,5,false) = 13/15");
    pair(36, "`ground`: the ground", "angle(2,6,7,7,true) = 1/21; angle(2,6,7,7,false) = 5/7");
    pair(36, "`isSum`: whether the sum of crank and ground is a side",
        "angle(2,6,7,5,false) = 19/21; angle(2,6,7,5,true) = 3/7; angle(10,6,7,4,true) throws Missing; angle(10,6,7,4,false) = 7/12");
    pair(36, THE_NUMBER, "angle(6,6,7,5,true) = -3/7; angle(6,6,7,5,true) = -3/7; angle(5,7,6,6,true) = -3/7");
  }

  // Promises 38 to 43

  private static void teeth() {
    check(38, "Returns a number of teeth of the pair that is nearest to a ratio.",
        "teeth(3,1,true) = 18; teeth(3,1,false) = 6; teeth(1,3,true) = 6; teeth(1,3,false) = 18; teeth(1000,999,true) = 6;"
            + "teeth(1000,999,false) = 6; teeth(314,100,true) = 22; teeth(314,100,false) = 7");
    check(38, "`isFirst`: whether the first one is asked", "teeth(7,5,true) = 14; teeth(7,5,false) = 10; teeth(5,7,true) = 10");
    check(38, "Returns the teeth.", "teeth(29,23,true) = 29; teeth(29,23,false) = 23; teeth(23,29,true) = 23; teeth(23,29,false) = 29");
  }

  private static void pairs() {
    check(39, "Returns how many.", "pairs(1,3) = 5; pairs(3,1) = 5; pairs(2,3) = 8; pairs(11,13) = 2; pairs(22,26) = 2; pairs(16,17) = 1;"
        + "pairs(1,6) = 0");
  }

  private static void sums() {
    check(40, "Returns a sum over the works.",
        "checksum() = 7; shaft(); checksum() = 6728; shaft(); checksum() = 6465609; turn(1,12); checksum() = 6465641; cam(0);"
            + "checksum() = 6465641; link('k',0,1,0,0); slack(0,5); checksum() = 6465641");
    check(41, "Returns the share of shafts that are driven.",
        shop(4) + "drivenShare() = 0.0; link('k',0,1,0,0); drivenShare() = 0.25; engage(0,false); drivenShare() = 0.25;"
            + "engage(0,true); life(0,1); turn(0,25); isBroken(0) = true; drivenShare() = 0.25; planets(0,1,2,6,6); drivenShare() = 0.5");
    check(42, "Returns the mean wear of links.",
        shopOfClutches(2) + "meanWorn() = 0.0; turn(0,12); meanWorn() = 0.5; engage(1,false); turn(0,-12); meanWorn() = 0.75;"
            + "life(0,1); turn(0,1); isBroken(0) = true; repair(0); meanWorn() = 0.25");
    check(43, "Checks the works.",
        "isSound() = true;" + shopOfKinds() + "isSound() = true; turn(0,25); isSound() = true; life(2,1); turn(1,-7); isSound() = true;"
            + "isBroken(2) = true; repair(2); isSound() = true; turn(0,-48); isSound() = true");
  }
}
