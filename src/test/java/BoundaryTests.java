/** A test for each sentence of the document that names a boundary case. */
final class BoundaryTests extends DocumentRuns {
  static void all() {
    newObject(); shaft(); link(); linkNumbers(); linkWays(); planets(); planetWays(); engage(); life(); slack();
    turn(); turnSteps(); turnGeneva(); turnRatchet(); turnPlanets(); place(); ratio(); ratioOnWays(); driver(); freedom();
    worn(); isBroken(); repair(); slackOf();
    cam(); segment(); clear(); height(); heightRound(); steep(); wish(); make(); makeRound();
    drum(); pin(); struck(); struckRound();
    bars(); limit(); angle(); teeth(); pairs();
    checksum(); drivenShare(); meanWorn(); isSound();
    changesNothing();
  }

  // Promise 1

  private static void newObject() {
    check(1, "Creates a shop without shafts, links, cams and drums.",
        "freedom() = 0; checksum() = 7; isSound() = true; drivenShare() throws Arithmetic; meanWorn() throws Arithmetic",
        "placeOver(0) throws Index; placeUnder(0) throws Index; driver(0) throws Index; slackOfOver(0) throws Index;"
            + "slackOfUnder(0) throws Index; ratioOver(0,0) throws Index; ratioUnder(0,0) throws Index; turn(0,1) throws Index",
        "isBroken(0) throws Index; wornOver(0) throws Index; wornUnder(0) throws Index; repair(0) throws Index; life(0,1) throws Index;"
            + "slack(0,1) throws Index; engage(0,true) throws Index",
        "clear(0) throws Index; heightOver(0) throws Index; heightUnder(0) throws Index; steepOver(0) throws Index;"
            + "steepUnder(0) throws Index; segment(0,1,0,'u') throws Index; wish(0,0,0) throws Index; make(0,'u',1) throws Index",
        "struck(0,0) throws Index; pin(0,0,0,true) throws Index",
        "shaft() = 0; shaft() = 1; link('k',0,1,0,0) = 0; cam(0) = 0; drum(0) = 0; clear(0) = 0; struck(0,0) = 0");
    check(1, "An object is used for at most 512 calls after it has been made; what later calls answer is free.",
        shop(2) + "link('k',0,1,0,0) = 0;" + "turn(0,48) = 2;".repeat(505) + "place(0) = 1010/1; placeOver(1) = 1010; isSound() = true",
        shop(2) + "link('g',0,1,30,6) = 0; drum(1) = 0;" + pinsOfTrack(0, 7) + "turn(0,-48) = 2;".repeat(482)
            + "placeOver(1) = 4820; struck(0,7) = 115680");
  }

  // Promise 2

  private static void shaft() {
    StringBuilder all = new StringBuilder();
    for (int i = 0; i < 14; i++) all.append("shaft() = " + i + ";");
    check(2, "Throws `IllegalStateException` if there are 14",
        all + "shaft() throws State; shaft() throws State; freedom() = 14",
        shopOfClutches(13) + "shaft() throws State; freedom() = 1; turn(0,1) = 14");
    check(2, "At most 14 shafts are numbered from 0, each with a place, in turns, 0 at first.",
        "shaft() = 0; place(0) = 0/1; placeOver(1) throws Index; turn(0,7) = 1; shaft() = 1; place(1) = 0/1; place(0) = 7/24",
        shop(13) + "placeOver(13) throws Index; shaft() = 13; place(13) = 0/1; placeOver(14) throws Index; turn(13,1) = 1");
    check(2, "Returns its number.", shopOfClutches(2) + "shaft() = 3; freedom() = 2; driver(3) throws Missing");
  }

  // Promise 3

  private static void link() {
    check(3, NO_SHAFT_EITHER,
        "link('g',0,0,6,6) throws Index; shaft(); link('k',0,1,0,0) throws Index; link('k',1,0,0,0) throws Index",
        shop(3) + refusedBad("link('k',#,0,0,0)", "Index", -1, 3) + refusedBad("link('k',0,#,0,0)", "Index", -1, 3)
            + "link('k',2,1,0,0) = 0; link('k',0,2,0,0) = 1; driver(2) = 1",
        shop(14) + refused("link('i',#,0,6,6)", "Index", -1, 14) + refused("link('i',0,#,6,6)", "Index", -1, 14)
            + "link('i',13,12,6,6) = 0; link('i',0,13,6,6) = 1");
    check(3, "Throws `IllegalArgumentException` if there is no such kind, or a number is out of range, or not 0 without a meaning",
        shop(2) + otherKinds("6,6"), shop(2) + otherKinds("0,0"), shop(2) + otherKinds("3,0"),
        shop(2) + refusedBad("link('g',0,1,#,6)", "Argument", 5, 31, 0, -6) + refusedBad("link('g',0,1,6,#)", "Argument", 5, 31, 0, -6)
            + refusedBad("link('i',0,1,#,30)", "Argument", 5, 31, 0, -6) + refusedBad("link('i',0,1,30,#)", "Argument", 5, 31, 0, -6),
        shop(2) + refusedBad("link('v',0,1,#,0)", "Argument", 2, 13, 0, -3) + refusedBad("link('v',0,1,3,#)", "Argument", -1, 1, 6)
            + refusedBad("link('r',0,1,#,0)", "Argument", 2, 25, 0, -3) + refusedBad("link('r',0,1,3,#)", "Argument", -1, 1, 6),
        shop(2) + refusedBad("link('k',0,1,#,0)", "Argument", -1, 1, 6) + refusedBad("link('k',0,1,0,#)", "Argument", -1, 1, 6),
        shop(2) + "link('g',0,1,6,30) = 0; turn(0,24) = 2; place(1) = -1/5",
        shop(2) + "link('g',0,1,30,6) = 0; turn(0,24) = 2; place(1) = -5/1",
        shop(2) + "link('i',0,1,6,30) = 0; turn(0,24) = 2; place(1) = 1/5",
        shop(2) + "link('i',0,1,30,6) = 0; turn(0,24) = 2; place(1) = 5/1",
        shop(2) + "link('g',0,1,6,6) = 0; turn(0,1) = 2; place(1) = -1/24",
        shop(2) + "link('i',0,1,30,30) = 0; turn(0,1) = 2; place(1) = 1/24",
        shop(3) + "link('v',0,1,3,0) = 0; link('v',0,2,12,0) = 1; turn(0,24) = 3; place(1) = 1/3; place(2) = 1/12",
        shop(3) + "link('r',0,1,3,0) = 0; link('r',0,2,24,0) = 1; turn(0,1) = 2; place(2) = 1/24; turn(0,7) = 3; place(1) = 1/3");
    check(3, "A number that has no meaning for a kind is 0.",
        shop(4) + "link('v',0,1,6,6) throws Argument; link('v',0,1,6,0) = 0; link('r',0,2,6,6) throws Argument; link('r',0,2,6,0) = 1;"
            + "link('k',0,3,6,6) throws Argument; link('k',0,3,0,0) = 2");
    check(3, FIRST_ONE,
        shop(2) + "link('z',2,2,0,0) throws Index; link('g',-1,-1,5,5) throws Index; link('k',0,2,1,1) throws Index;"
            + "link('k',2,0,0,0) throws Index; link('z',0,0,6,6) throws Argument; link('g',1,1,5,6) throws Argument;"
            + "link('k',0,0,0,1) throws Argument; link('k',0,0,0,0) throws Unsupported",
        shopOfClutches(13) + "link('k',0,14,0,0) throws Index; link('r',1,0,2,0) throws Argument; link('k',0,13,0,0) throws Unsupported;"
            + "link('k',13,0,0,0) throws Unsupported");
  }

  private static String otherKinds(String numbers) {
    StringBuilder all = new StringBuilder();
    for (int c = 0; c < 300; c++) {
      if ("givrk".indexOf(c) < 0) all.append("link(char " + c + ",0,1," + numbers + ") throws Argument;");
    }
    for (char c : "givrk".toCharArray()) {
      all.append("link(char " + (c + 256) + ",0,1," + numbers + ") throws Argument;");
      all.append("link(char " + (c + 65280) + ",0,1," + numbers + ") throws Argument;");
    }
    return all + "link(char 65535,0,1," + numbers + ") throws Argument";
  }

  private static void linkNumbers() {
    String most = "At most 16 links are numbered from 0, each of a kind, from a shaft to another one that it drives";
    StringBuilder all = new StringBuilder(shop(14));
    for (int i = 0; i < 12; i++) all.append("link('i',0," + (i + 1) + ",30,6) = " + i + ";");
    all.append("planets(0,1,13,6,6) = 12;");
    check(3, most, all + "turn(0,1) = 14; driver(13) = 12; freedom() = 1",
        all + "isBroken(12) = false; isBroken(13) throws Index; link('k',1,2,0,0) throws Unsupported; isBroken(13) throws Index");
    check(3, "Throws `IllegalStateException` if there are 16",
        all + "link('k',0,13,0,0) throws Unsupported; link('k',13,0,0,0) throws Unsupported; link('k',0,0,0,0) throws Unsupported");
    check(3, "Returns its number.",
        shop(4) + "link('k',0,0,0,0) throws Unsupported; link('k',0,1,0,0) = 0; link('k',0,1,0,0) throws Unsupported;"
            + "planets(0,1,2,6,6) = 1; link('v',0,3,2,0) throws Argument; link('v',0,3,3,0) = 2");
  }

  private static void linkWays() {
    String refusal = "Throws `UnsupportedOperationException` if both are the same, the other one is driven, it would lead round, or a"
        + " shaft would be too far behind";
    check(3, refusal,
        shop(2) + "link('g',0,0,6,6) throws Unsupported; link('i',1,1,6,6) throws Unsupported; link('v',0,0,3,0) throws Unsupported;"
            + "link('r',1,1,3,0) throws Unsupported; link('k',0,0,0,0) throws Unsupported",
        shopOfKinds() + "link('k',1,2,0,0) throws Unsupported; link('k',1,3,0,0) throws Unsupported;"
            + "link('k',1,4,0,0) throws Unsupported; link('k',1,5,0,0) throws Unsupported; link('k',1,6,0,0) throws Unsupported;"
            + "link('k',1,7,0,0) throws Unsupported; link('g',0,2,6,6) throws Unsupported; link('k',0,1,0,0) = 6",
        shop(2) + "link('k',0,1,0,0); link('k',1,0,0,0) throws Unsupported; link('g',1,0,6,6) throws Unsupported",
        shop(3) + "link('k',0,1,0,0); link('k',1,2,0,0); link('k',2,0,0,0) throws Unsupported; link('k',1,0,0,0) throws Unsupported",
        shop(4) + "link('k',2,3,0,0); link('k',1,2,0,0); link('k',0,1,0,0) = 2; link('k',3,0,0,0) throws Unsupported");
    check(3, "No shaft is driven by two links, or by itself, by whatever way",
        shop(4) + "planets(0,1,2,6,6); link('k',2,0,0,0) throws Unsupported; link('k',2,1,0,0) throws Unsupported;"
            + "link('k',3,2,0,0) throws Unsupported; link('k',2,3,0,0) = 1",
        shop(3) + "link('k',0,1,0,0); engage(0,false); link('k',2,1,0,0) throws Unsupported; link('k',1,0,0,0) throws Unsupported",
        shop(3) + "link('g',0,1,6,6); life(0,1); turn(0,48); isBroken(0) = true; link('k',2,1,0,0) throws Unsupported;"
            + "link('k',1,0,0,0) throws Unsupported; link('k',1,2,0,0) = 1");
    check(3, "a shaft is at most 3 links behind one that nothing drives, by the longest way",
        shop(5) + "link('k',0,1,0,0) = 0; link('k',1,2,0,0) = 1; link('k',2,3,0,0) = 2; link('k',3,4,0,0) throws Unsupported;"
            + "turn(0,1) = 4",
        shop(5) + "link('k',3,4,0,0) = 0; link('k',2,3,0,0) = 1; link('k',1,2,0,0) = 2; link('k',0,1,0,0) throws Unsupported;"
            + "turn(1,1) = 4",
        shop(5) + "link('k',0,1,0,0) = 0; link('k',2,3,0,0) = 1; link('k',3,4,0,0) = 2; link('k',1,2,0,0) throws Unsupported;"
            + "link('k',0,2,0,0) = 3; turn(0,1) = 5",
        shop(5) + "link('k',0,1,0,0) = 0; link('k',1,2,0,0) = 1; link('k',3,4,0,0) = 2; link('k',2,3,0,0) throws Unsupported;"
            + "link('k',1,3,0,0) = 3; turn(0,1) = 5",
        shop(5) + "link('k',4,3,0,0) = 0; link('k',3,2,0,0) = 1; link('k',2,1,0,0) = 2; link('k',1,0,0,0) throws Unsupported;"
            + "turn(4,1) = 4",
        shop(6) + "link('k',0,1,0,0); link('k',1,2,0,0); planets(3,2,4,6,6) = 2; link('k',4,5,0,0) throws Unsupported",
        shop(6) + "link('k',0,1,0,0); link('k',1,2,0,0); planets(2,3,4,6,6) = 2; link('k',4,5,0,0) throws Unsupported",
        shop(6) + "planets(0,1,2,6,6); link('k',2,3,0,0); link('k',3,4,0,0) = 2; link('k',5,0,0,0) throws Unsupported;"
            + "link('k',5,1,0,0) throws Unsupported");
  }

  // Promise 4

  private static void planets() {
    check(4, "Throws `IndexOutOfBoundsException` if there is no such shaft, for any",
        "planets(0,0,0,6,6) throws Index; shaft(); planets(0,0,1,6,6) throws Index",
        shop(2) + "planets(0,1,2,6,6) throws Index; planets(2,0,1,6,6) throws Index; planets(1,2,0,6,6) throws Index",
        shop(3) + refusedBad("planets(#,1,2,6,6)", "Index", -1, 3) + refusedBad("planets(0,#,2,6,6)", "Index", -1, 3)
            + refusedBad("planets(0,1,#,6,6)", "Index", -1, 3) + "planets(2,0,1,6,6) = 0",
        shop(14) + "planets(14,1,2,6,6) throws Index; planets(13,12,11,6,6) = 0; planets(10,13,9,6,6) = 1; planets(0,1,13,6,6) = 2");
    check(4, NUMBER_OUT,
        shop(3) + refusedBad("planets(0,1,2,#,6)", "Argument", 5, 31, 0, -6) + refusedBad("planets(0,1,2,6,#)", "Argument", 5, 31, 0, -6));
    check(4, "Planets are a link from two shafts, sun and ring, with teeth a and b, 6 to 30, to a third one",
        shop(3) + "planets(0,1,2,6,30) = 0; turn(0,24) = 2; place(2) = 1/6; turn(1,24) = 2; place(2) = 1/1",
        shop(3) + "planets(0,1,2,30,6) = 0; turn(0,24) = 2; place(2) = 5/6; turn(1,24) = 2; place(2) = 1/1",
        shop(3) + "planets(0,1,2,6,6) = 0; turn(0,24) = 2; place(2) = 1/2",
        shop(3) + "planets(0,1,2,30,30) = 0; turn(1,-24) = 2; place(2) = -1/2");
    check(4, "Throws `IllegalStateException` if there are 16 links",
        shopOfClutches(12) + "shaft(); planets(0,1,13,6,6) = 12; planets(0,1,13,6,6) throws Unsupported;"
            + "planets(1,2,0,6,6) throws Unsupported");
    check(4, "Returns the number of the link.",
        shop(4) + "link('k',0,1,0,0) = 0; planets(0,1,1,6,6) throws Unsupported; planets(0,1,2,6,6) = 1; planets(0,2,3,6,6) = 2;"
            + "driver(3) = 2");
    check(4, FIRST_ONE,
        shop(3) + "planets(3,3,3,5,5) throws Index; planets(0,0,3,6,6) throws Index; planets(-1,1,2,31,6) throws Index;"
            + "planets(0,0,0,5,6) throws Argument; planets(0,0,1,6,31) throws Argument; planets(0,0,0,6,6) throws Unsupported");
  }

  private static void planetWays() {
    check(4, "Throws `UnsupportedOperationException` if two are the same, the third one is driven, it would lead round, or a shaft would"
            + " be too far behind",
        shop(2) + "planets(0,0,1,6,6) throws Unsupported; planets(0,1,0,6,6) throws Unsupported; planets(1,0,0,6,6) throws Unsupported;"
            + "planets(0,0,0,6,6) throws Unsupported",
        shopOfKinds() + "planets(0,1,2,6,6) throws Unsupported; planets(0,1,3,6,6) throws Unsupported;"
            + "planets(0,1,4,6,6) throws Unsupported; planets(0,1,5,6,6) throws Unsupported; planets(0,1,6,6,6) throws Unsupported;"
            + "planets(0,1,7,6,6) throws Unsupported",
        shop(4) + "link('k',0,1,0,0); planets(1,2,0,6,6) throws Unsupported; planets(2,1,0,6,6) throws Unsupported;"
            + "planets(0,1,2,6,6) = 1; planets(3,2,0,6,6) throws Unsupported; planets(2,3,0,6,6) throws Unsupported");
    check(4, "a shaft is at most 3 links behind one that nothing drives, by the longest way",
        shop(6) + "link('k',0,1,0,0); link('k',1,2,0,0); link('k',2,3,0,0); planets(3,4,5,6,6) throws Unsupported;"
            + "planets(4,3,5,6,6) throws Unsupported; planets(0,2,5,6,6) = 3",
        shop(6) + "link('k',0,1,0,0); link('k',1,2,0,0); link('k',2,3,0,0); planets(4,5,0,6,6) throws Unsupported",
        shop(7) + "link('k',0,1,0,0); link('k',2,3,0,0); link('k',3,4,0,0); planets(1,5,2,6,6) throws Unsupported;"
            + "planets(5,1,2,6,6) throws Unsupported; planets(0,5,2,6,6) = 3; turn(0,24) = 5",
        shop(9) + "planets(0,1,2,6,6) = 0; planets(0,2,3,6,6) = 1; planets(3,1,4,6,6) = 2; planets(0,4,5,6,6) throws Unsupported;"
            + "planets(4,0,5,6,6) throws Unsupported; planets(7,8,0,6,6) throws Unsupported; planets(7,8,1,6,6) throws Unsupported");
  }

  // Promises 5 to 7

  private static void engage() {
    check(5, NO_LINK, shop(2) + "engage(0,true) throws Index; link('k',0,1,0,0); engage(1,true) throws Index; engage(0,true) = true",
        shop(2) + "link('k',0,1,0,0);" + refusedBad("engage(#,false)", "Index", -1, 1),
        shopOfClutches(13) + "engage(13,false) throws Index; engage(12,false) = true; turn(0,1) = 13");
    check(5, "Throws `UnsupportedOperationException` if it is no clutch",
        shopOfKinds() + "engage(0,false) throws Unsupported; engage(1,false) throws Unsupported; engage(2,false) throws Unsupported;"
            + "engage(3,true) throws Unsupported; engage(5,false) throws Unsupported; engage(4,false) = true; turn(0,24) = 6");
    check(5, FIRST_ONE, shopOfKinds() + "engage(6,true) throws Index; engage(-1,false) throws Index; engage(0,true) throws Unsupported");
    check(5, "Returns whether it was.",
        shop(2) + "link('k',0,1,0,0); engage(0,true) = true; engage(0,false) = true; engage(0,false) = false; engage(0,true) = false;"
            + "engage(0,true) = true",
        shop(2) + "link('k',0,1,0,0); life(0,1); turn(0,48); isBroken(0) = true; engage(0,false) = true; engage(0,true) = false;"
            + "turn(0,1) = 1");
    check(5, "'k' a clutch, engaged at first: the other one turns alike",
        shop(2) + "link('k',0,1,0,0); turn(0,7) = 2; place(1) = 7/24; engage(0,false) = true; turn(0,1) = 1; place(1) = 7/24;"
            + "engage(0,true) = false; turn(0,-1) = 2; place(1) = 1/4");
  }

  private static void life() {
    check(6, NO_LINK, shop(2) + "life(0,1) throws Index; link('k',0,1,0,0); life(1,1) throws Index; life(0,1) = 0",
        shop(2) + "link('k',0,1,0,0);" + refusedBad("life(#,1)", "Index", -1, 1),
        shopOfClutches(13) + "life(13,1) throws Index; life(12,1) = 0; turn(0,48); isBroken(12) = true; isBroken(11) = false");
    check(6, OUT_OF_RANGE,
        shop(2) + "link('k',0,1,0,0);" + refusedBad("life(0,#)", "Argument", -1, 1000) + "life(0,0) = 0; life(0,999) = 0;"
            + "life(0,1) = 999; life(0,1000) throws Argument; life(0,2) = 1; turn(0,48); isBroken(0) = false");
    check(6, "`turns`: the turns, 0 to 999",
        shop(2) + "link('k',0,1,0,0); life(0,999) = 0; life(0,0) = 999; life(0,998) = 0; life(0,1) = 998");
    check(6, "Returns the one before.",
        shopOfKinds() + "life(5,7) = 0; life(0,8) = 0; life(5,9) = 7; life(5,9) = 9; life(0,0) = 8; life(0,0) = 0");
    check(6, "A link can have a life, 1 to 999 turns, 0 for none",
        shop(2) + "link('g',0,1,6,30); life(0,1); turn(0,24); isBroken(0) = false; turn(0,1); isBroken(0) = true; worn(0) = 25/24",
        shop(2) + "link('g',0,1,6,30); life(0,2); turn(0,-48); isBroken(0) = false; turn(0,-1); isBroken(0) = true; worn(0) = 49/24",
        nineTurns() + "life(2,999);" + "turn(0,48) = 4;".repeat(55) + "turn(0,24); worn(2) = 999/1; isBroken(2) = false; turn(0,1);"
            + "isBroken(2) = true; worn(2) = 7995/8",
        nineTurns() + "life(2,999); life(2,0);" + "turn(0,48) = 4;".repeat(60) + "worn(2) = 1080/1; isBroken(2) = false");
    check(6, FIRST_ONE, shop(2) + "link('k',0,1,0,0); life(1,1000) throws Index; life(-1,-1) throws Index; life(0,-1) throws Argument");
  }

  /** The shaft 2 turns nine times as much as the shaft 0, and so does the shaft 3. */
  private static String nineTurns() {
    return shop(4) + "link('i',0,1,18,6); link('i',1,2,18,6); link('k',2,3,0,0);";
  }

  private static void slack() {
    check(7, NO_LINK, shop(2) + "slack(0,1) throws Index; link('k',0,1,0,0); slack(1,1) throws Index; slack(0,1) = 0",
        shop(2) + "link('k',0,1,0,0);" + refusedBad("slack(#,1)", "Index", -1, 1),
        shopOfClutches(13) + "slack(13,1) throws Index; slack(12,1) = 0; slackOf(13) = 1/1; slackOf(12) = 0/1");
    check(7, OUT_OF_RANGE,
        shop(2) + "link('k',0,1,0,0);" + refusedBad("slack(0,#)", "Argument", -1, 100) + "slack(0,0) = 0; slack(0,99) = 0;"
            + "slackOf(1) = 99/1; slack(0,100) throws Argument; slackOf(1) = 99/1; slack(0,0) = 99");
    check(7, "Slack of a link is 0 to 99 thousandths of a turn",
        shop(2) + "link('k',0,1,0,0); slack(0,99) = 0; slack(0,0) = 99; slack(0,1) = 0; slackOf(1) = 1/1");
    check(7, "Returns the one before.",
        shopOfKinds() + "slack(5,7) = 0; slack(0,8) = 0; slack(5,9) = 7; slack(5,9) = 9; slack(0,0) = 8; slack(0,0) = 0");
    check(7, FIRST_ONE, shop(2) + "link('k',0,1,0,0); slack(1,100) throws Index; slack(-1,-1) throws Index; slack(0,100) throws Argument");
  }

  // Promise 8

  private static void turn() {
    check(8, NO_SHAFT, "turn(0,1) throws Index; shaft(); turn(1,1) throws Index; turn(0,1) = 1",
        shop(3) + refusedBad("turn(#,1)", "Index", -1, 3) + "turn(2,1) = 1; place(2) = 1/24; place(1) = 0/1",
        shop(14) + "turn(14,1) throws Index; turn(13,1) = 1");
    check(8, "Throws `IllegalArgumentException` if the steps are out of range",
        shop(1) + refusedBad("turn(0,#)", "Argument", -49, 49) + "turn(0,48) = 1; place(0) = 2/1; turn(0,-48) = 1; place(0) = 0/1",
        shop(1) + "turn(0,-48) = 1; place(0) = -2/1; turn(0,-49) throws Argument; turn(0,47) = 1; place(0) = -1/24");
    check(8, "`steps`: the steps, -48 to 48, below 0 for down",
        shop(1) + "turn(0,1) = 1; place(0) = 1/24; turn(0,-1) = 1; place(0) = 0/1; turn(0,-1) = 1; place(0) = -1/24; turn(0,0) = 0;"
            + "place(0) = -1/24");
    check(8, "Throws `UnsupportedOperationException` if it is driven",
        shopOfKinds() + "turn(2,1) throws Unsupported; turn(3,1) throws Unsupported; turn(4,1) throws Unsupported;"
            + "turn(5,1) throws Unsupported; turn(6,0) throws Unsupported; turn(7,-48) throws Unsupported; turn(1,1) = 2; turn(0,1) = 5",
        shop(2) + "turn(1,1) = 1; link('k',0,1,0,0); turn(1,1) throws Unsupported; engage(0,false); turn(1,1) throws Unsupported");
    check(8, "Returns how many shafts have another place by that.",
        shopOfClutches(13) + "turn(0,0) = 0; turn(0,1) = 14; turn(0,48) = 14; turn(0,-48) = 14; checksum()",
        shop(1) + "turn(0,0) = 0; turn(0,48) = 1",
        shop(4) + "link('v',0,1,3,0); link('g',0,2,10,30); planets(1,2,3,6,6); turn(0,24) = 3; place(3) = 0/1; turn(0,1) = 3;"
            + "place(3) = -1/144",
        shop(3) + "link('k',0,1,0,0); engage(0,false); turn(0,1) = 1; turn(2,1) = 1");
    check(8, "The inputs are shafts that nothing drives.",
        shop(2) + "turn(1,1) = 1; link('k',0,1,0,0); turn(1,1) throws Unsupported; turn(0,1) = 2");
    check(8, FIRST_ONE,
        shopOfClutches(2) + "turn(3,49) throws Index; turn(-1,-49) throws Index; turn(1,49) throws Argument; turn(2,-49) throws Argument;"
            + "turn(1,48) throws Unsupported");
  }

  private static void turnSteps() {
    String stepByStep = "An input is turned step by step, 24 to a turn; at each step all that it drives follows, shaft behind shaft;"
        + " what other inputs drive stands.";
    check(8, stepByStep,
        shop(1) + "turn(0,23) = 1; place(0) = 23/24; turn(0,1) = 1; place(0) = 1/1; turn(0,1) = 1; place(0) = 25/24",
        shop(4) + "link('k',2,3,0,0) = 0; link('k',1,2,0,0) = 1; link('k',0,1,0,0) = 2; turn(0,1) = 4; place(3) = 1/24",
        shop(4) + "link('k',0,1,0,0); link('k',2,3,0,0); turn(0,5) = 2; place(2) = 0/1; place(3) = 0/1; turn(2,-5) = 2; place(1) = 5/24",
        toAndFro() + "turn(0,-24) = 4; place(3) = -23/144; place(4) = 1/6");
    check(8, "What is worn is counted at each step.", toAndFro() + "turn(0,-24) = 4; worn(3) = 23/72");
  }

  /** The shaft 3 goes up and falls back in one call, as the geneva turns at the last step of it; a ratchet is on it. */
  private static String toAndFro() {
    return shop(5) + "link('v',0,1,3,0); link('g',0,2,10,30); planets(1,2,3,6,6); turn(0,23); place(3) = -23/144; link('r',3,4,24,0) = 3;";
  }

  private static void turnGeneva() {
    check(8, "'v' a geneva with a slots, 3 to 12: as the place of the first one, rounded down, is more or less than ahead of a step, the"
            + " other one turns by as much, divided by a",
        shop(2) + "link('v',0,1,3,0); turn(0,23) = 1; place(1) = 0/1; turn(0,1) = 2; place(1) = 1/3; turn(0,23) = 1; turn(0,1) = 2;"
            + "place(1) = 2/3",
        shop(2) + "link('v',0,1,3,0); turn(0,24) = 2; turn(0,-1) = 2; place(1) = 0/1; turn(0,-23) = 1; place(0) = 0/1; place(1) = 0/1",
        shop(2) + "link('v',0,1,3,0); turn(0,-1) = 2; place(1) = -1/3; turn(0,-23) = 1; place(0) = -1/1; place(1) = -1/3; turn(0,-1) = 2;"
            + "place(1) = -2/3; turn(0,1) = 2; place(1) = -1/3; turn(0,23) = 1; turn(0,1) = 2; place(1) = 0/1",
        shop(2) + "turn(0,23); link('v',0,1,12,0); turn(0,1) = 2; place(1) = 1/12; turn(0,48) = 2; place(1) = 1/4",
        shop(4) + "link('i',0,1,30,6); link('i',1,2,30,6); link('v',2,3,4,0); turn(0,23) = 4; place(3) = 23/4; turn(0,1) = 4;"
            + "place(3) = 25/4; turn(0,-1) = 4; place(3) = 23/4; turn(0,-23) = 4; place(3) = 0/1; turn(0,-1) = 4; place(3) = -1/2");
  }

  private static void turnRatchet() {
    check(8, "'r' a ratchet with a teeth, 3 to 24: as a times the place of the first one, rounded down, is behind a step greater than it"
            + " ever was behind one, and as the link was made, the other one turns by as much as it is greater, divided by a",
        shop(2) + "link('r',0,1,3,0); turn(0,7) = 1; place(1) = 0/1; turn(0,1) = 2; place(1) = 1/3; turn(0,-8) = 1; turn(0,8) = 1;"
            + "place(1) = 1/3; turn(0,7) = 1; turn(0,1) = 2; place(1) = 2/3",
        shop(2) + "turn(0,20); link('r',0,1,3,0); turn(0,3) = 1; turn(0,1) = 2; place(1) = 1/3",
        shop(2) + "turn(0,-1); link('r',0,1,3,0); turn(0,1) = 2; place(1) = 1/3",
        shop(2) + "turn(0,-8); link('r',0,1,3,0); turn(0,7) = 1; turn(0,1) = 2; place(1) = 1/3",
        shop(2) + "turn(0,24); turn(0,-24); link('r',0,1,3,0); turn(0,8) = 2; place(1) = 1/3",
        shop(2) + "link('r',0,1,24,0); turn(0,-48) = 1; place(1) = 0/1; turn(0,48) = 1; place(1) = 0/1; turn(0,1) = 2; place(1) = 1/24",
        shop(3) + "link('i',0,1,30,6); link('r',1,2,24,0); turn(0,1) = 3; place(2) = 5/24; turn(0,-1) = 2; turn(0,2) = 3; place(2) = 5/12");
  }

  private static void turnPlanets() {
    check(8, "it turns a times as much as the sun and b times as much as the ring, together, divided by a plus b",
        shop(3) + "planets(0,1,2,10,20); turn(0,24) = 2; place(2) = 1/3; turn(1,24) = 2; place(2) = 1/1; turn(0,-48) = 2; place(2) = 1/3;"
            + "turn(1,-12) = 2; place(2) = 0/1",
        shop(4) + "link('g',0,1,6,6); planets(0,1,2,6,6); turn(0,48) = 2; place(2) = 0/1",
        shop(4) + "link('g',0,1,30,6); planets(1,0,2,6,30); turn(0,-48) = 2; place(2) = 0/1",
        shop(4) + "link('k',0,1,0,0); planets(0,1,2,7,23); turn(0,-1) = 3; place(2) = -1/24");
  }

  // Promises 9 to 14

  private static void place() {
    pair(9, NO_SHAFT, "place(0) throws Index; shaft(); place(0) = 0/1; place(1) throws Index",
        shop(3) + refusedBad("place(#)", "Index", -1, 3) + "turn(2,1); place(2) = 1/24",
        shop(14) + "place(14) throws Index; place(13) = 0/1");
    pair(9, LOWEST_TERMS,
        shop(1) + "place(0) = 0/1; turn(0,2); place(0) = 1/12; turn(0,-2); place(0) = 0/1; turn(0,-3); place(0) = -1/8; turn(0,-21);"
            + "place(0) = -1/1; turn(0,-1); place(0) = -25/24; turn(0,48); place(0) = 23/24; turn(0,1); place(0) = 1/1",
        shop(2) + "link('g',0,1,6,30); turn(0,5); place(1) = -1/24; turn(0,-5); place(1) = 0/1; turn(0,-1); place(1) = 1/120");
    pair(9, "All places are exact fractions, whatever way a work is driven, and no show asks for what breaks its bounds.",
        shop(4) + "link('g',0,1,7,30); link('i',1,2,11,29); link('g',2,3,13,23); turn(0,1); place(1) = -7/720; place(2) = -77/20880;"
            + "place(3) = 1001/480240; turn(0,-1); place(3) = 0/1",
        manyPlanets() + "turn(0,1); place(8) = 101002296679/7132679520216; turn(1,-1); place(8) = -95190386651/7132679520216; turn(0,-1);"
            + "turn(1,1); place(8) = 0/1",
        manyPlanets() + "turn(0,24); place(8) = 101002296679/297194980009; turn(1,24); place(8) = 1/1",
        manyPlanets() + "turn(0,48); turn(1,48);".repeat(240) + "place(8) = 480/1; turn(0,-1); turn(1,-1); place(8) = 11519/24");
  }

  private static void ratio() {
    pair(11, NO_SHAFT_EITHER,
        "ratio(0,0) throws Index; shaft(); ratio(0,0) = 1/1; ratio(1,0) throws Index; ratio(0,1) throws Index",
        shop(3) + refusedBad("ratio(#,0)", "Index", -1, 3) + refusedBad("ratio(0,#)", "Index",
        -1, 3) + "ratio(2,2) = 1/1; ratio(2,0) = 0/1",
        shop(14) + "link('k',0,13,0,0); ratio(14,0) throws Index; ratio(0,14) throws Index; ratio(13,0) = 1/1; ratio(0,12) = 0/1");
    pair(11, FIRST_ONE,
        shop(3) + "link('v',0,1,3,0); ratio(3,1) throws Index; ratio(-1,1) throws Index; ratio(1,3) throws Index;"
            + "ratio(0,1) throws Unsupported; ratio(1,0) throws Unsupported");
    pair(11, LOWEST_TERMS,
        shop(4) + "link('g',0,1,6,30); link('i',1,2,30,6); ratio(1,0) = -1/5; ratio(2,0) = -1/1; ratio(0,0) = 1/1; ratio(3,0) = 0/1;"
            + "ratio(0,3) = 0/1",
        shop(4) + "link('g',0,1,6,6); planets(0,1,2,6,6); ratio(2,0) = 0/1; ratio(1,0) = -1/1",
        shop(4) + "link('g',0,1,30,6); link('g',1,2,30,6); link('g',2,3,30,6); ratio(3,0) = -125/1; ratio(2,0) = 25/1",
        manyPlanets() + "ratio(8,0) = 101002296679/297194980009; ratio(8,1) = 196192683330/297194980009");
    pair(11, "'k' a clutch, engaged at first: the other one turns alike",
        shop(2) + "link('k',0,1,0,0); ratio(1,0) = 1/1; engage(0,false); ratio(1,0) = 0/1; ratio(0,0) = 1/1; engage(0,true);"
            + "ratio(1,0) = 1/1",
        shop(2) + "link('g',0,1,6,6); life(0,1); turn(0,25); ratio(1,0) = 0/1; repair(0); ratio(1,0) = -1/1");
  }

  private static void ratioOnWays() {
    pair(11, "Throws `UnsupportedOperationException` if the other one is no input, or a geneva or ratchet that is not broken is on a way"
            + " between them, also where another link of it is broken or let go",
        shopOfKinds() + "ratio(0,2) throws Unsupported; ratio(2,2) throws Unsupported; ratio(0,3) throws Unsupported;"
            + "ratio(0,4) throws Unsupported; ratio(1,5) throws Unsupported; ratio(0,6) throws Unsupported;"
            + "ratio(7,7) throws Unsupported; ratio(7,1) = 1/2",
        shopOfKinds() + "ratio(4,0) throws Unsupported; ratio(5,0) throws Unsupported; ratio(4,1) = 0/1; ratio(5,1) = 0/1;"
            + "ratio(2,0) = -1/1; ratio(3,0) = 1/1; ratio(6,0) = 1/1",
        shop(4) + "link('k',0,1,0,0); link('v',1,2,3,0); link('k',2,3,0,0); ratio(1,0) = 1/1; ratio(2,0) throws Unsupported;"
            + "ratio(3,0) throws Unsupported",
        shop(5) + "link('r',0,1,3,0); planets(1,2,3,6,12); planets(2,1,4,6,12); ratio(3,0) throws Unsupported;"
            + "ratio(4,0) throws Unsupported; ratio(3,2) = 2/3; ratio(4,2) = 1/3",
        shop(4) + "link('v',0,1,3,0); planets(0,1,2,6,12); planets(1,0,3,6,12); ratio(2,0) throws Unsupported;"
            + "ratio(3,0) throws Unsupported",
        shop(3) + "link('v',0,1,3,0); link('k',1,2,0,0); engage(1,false); ratio(2,0) throws Unsupported; ratio(1,0) throws Unsupported",
        shop(4) + "link('k',0,1,0,0); link('r',1,2,3,0); link('k',2,3,0,0); engage(0,false); ratio(1,0) = 0/1;"
            + "ratio(2,0) throws Unsupported; ratio(3,0) throws Unsupported",
        shop(4) + "link('g',0,1,6,6); link('r',1,2,3,0); life(0,1); turn(0,25); isBroken(0) = true; ratio(1,0) = 0/1;"
            + "ratio(2,0) throws Unsupported",
        shop(4) + "link('v',0,1,3,0); link('k',1,2,0,0); life(0,1); turn(0,24); ratio(2,0) throws Unsupported; turn(0,1);"
            + "isBroken(0) = true; ratio(1,0) = 0/1; ratio(2,0) = 0/1; repair(0); ratio(1,0) throws Unsupported;"
            + "ratio(2,0) throws Unsupported",
        shop(4) + "link('r',0,1,3,0); planets(1,0,2,6,12); life(0,1); turn(0,24); ratio(2,0) throws Unsupported; turn(0,-1);"
            + "isBroken(0) = true; ratio(2,0) = 2/3",
        shop(3) + "link('v',0,1,3,0); link('r',1,2,3,0); life(0,1); turn(0,25); isBroken(0) = true; ratio(1,0) = 0/1;"
            + "ratio(2,0) throws Unsupported");
  }

  private static void driver() {
    check(13, NO_SHAFT, "driver(0) throws Index; shaft(); driver(1) throws Index; driver(0) throws Missing",
        shop(3) + "link('k',0,2,0,0);" + refusedBad("driver(#)", "Index", -1, 3) + "driver(2) = 0",
        shopOfClutches(13) + "driver(14) throws Index; driver(13) = 12; driver(1) = 0; driver(0) throws Missing");
    check(13, "Throws `NoSuchElementException` if none does",
        shop(3) + "driver(1) throws Missing; link('k',0,1,0,0); driver(1) = 0; driver(0) throws Missing; driver(2) throws Missing",
        shop(4) + "planets(0,1,2,6,6); driver(0) throws Missing; driver(1) throws Missing; driver(2) = 0; link('k',3,0,0,0);"
            + "driver(0) = 1");
    check(13, FIRST_ONE, shop(2) + "driver(2) throws Index; driver(-1) throws Index; driver(1) throws Missing");
  }

  private static void freedom() {
    check(14, "Returns how many inputs there are.", "freedom() = 0; shaft(); freedom() = 1", shop(14) + "freedom() = 14",
        shopOfClutches(13) + "freedom() = 1", shop(3) + "planets(0,1,2,6,6); freedom() = 2; link('k',0,1,0,0); freedom() = 1");
    check(14, "The inputs are shafts that nothing drives.",
        shop(3) + "freedom() = 3; link('k',0,1,0,0); freedom() = 2; link('k',0,1,0,0) throws Unsupported; freedom() = 2;"
            + "link('g',1,2,6,6); freedom() = 1",
        shop(3) + "link('k',2,0,0,0); freedom() = 2; link('k',1,2,0,0); freedom() = 1");
  }

  // Promises 15 to 20

  private static void worn() {
    pair(15, NO_LINK, shop(2) + "worn(0) throws Index; link('k',0,1,0,0); worn(0) = 0/1; worn(1) throws Index",
        shop(2) + "link('k',0,1,0,0);" + refusedBad("worn(#)", "Index", -1, 1),
        shopOfClutches(13) + "worn(13) throws Index; worn(12) = 0/1; turn(0,1); worn(12) = 1/24");
    pair(15, "A link is worn by as much as the first shaft of it turned, up and down, as a sum of turns, of planets the sun and the ring;"
            + " a clutch only as it is engaged.",
        shop(3) + "link('g',0,1,6,30); link('k',1,2,0,0); turn(0,0); worn(0) = 0/1; turn(0,7); turn(0,-7); worn(0) = 7/12;"
            + "worn(1) = 7/60; place(1) = 0/1",
        shop(3) + "planets(0,1,2,6,30); turn(0,5); worn(0) = 5/24; turn(1,-5); worn(0) = 5/12; turn(2,1) throws Unsupported;"
            + "worn(0) = 5/12",
        shop(3) + "link('g',0,1,6,6); planets(0,1,2,6,6); turn(0,24); place(2) = 0/1; worn(1) = 2/1",
        shop(3) + "link('v',0,1,4,0); link('k',1,2,0,0); turn(0,23); worn(1) = 0/1; turn(0,1); worn(1) = 1/4; turn(0,-1); worn(1) = 1/2;"
            + "worn(0) = 25/24",
        shop(2) + "link('k',0,1,0,0); turn(0,24); worn(0) = 1/1; engage(0,false); turn(0,24); worn(0) = 1/1; engage(0,true); turn(0,-1);"
            + "worn(0) = 25/24");
    pair(15, "it drives no more, nor is worn, till it is repaired",
        shop(2) + "link('r',0,1,3,0); life(0,1); turn(0,25); worn(0) = 25/24; turn(0,48) = 1; worn(0) = 25/24; repair(0) = 0;"
            + "worn(0) = 0/1; turn(0,1); worn(0) = 1/24",
        shop(3) + "link('k',0,1,0,0); link('k',1,2,0,0); life(0,1); turn(0,48); turn(0,48) = 1; worn(0) = 2/1; worn(1) = 2/1;"
            + "place(2) = 2/1");
  }

  private static void isBroken() {
    check(17, NO_LINK, shop(2) + "isBroken(0) throws Index; link('k',0,1,0,0); isBroken(0) = false; isBroken(1) throws Index",
        shop(2) + "link('k',0,1,0,0);" + refusedBad("isBroken(#)", "Index", -1, 1),
        shopOfClutches(13) + "isBroken(13) throws Index; isBroken(12) = false");
    check(17, "as it is worn more than that behind a call of turn(), it breaks",
        shop(2) + "link('k',0,1,0,0); life(0,1); turn(0,24); isBroken(0) = false; turn(0,1) = 2; isBroken(0) = true; place(1) = 25/24;"
            + "turn(0,1) = 1",
        shop(2) + "link('k',0,1,0,0); life(0,1); turn(0,-24); isBroken(0) = false; turn(0,-1) = 2; isBroken(0) = true",
        shop(2) + "link('k',0,1,0,0); life(0,1); turn(0,48) = 2; worn(0) = 2/1; place(1) = 2/1; isBroken(0) = true",
        shop(2) + "link('k',0,1,0,0); life(0,1); turn(0,12); turn(0,-12); isBroken(0) = false; turn(0,1); isBroken(0) = true",
        shop(3) + "link('k',0,1,0,0); turn(0,48); life(0,1); isBroken(0) = false; turn(0,49) throws Argument;"
            + "turn(1,1) throws Unsupported; isBroken(0) = false; turn(2,1) = 1; isBroken(0) = true; turn(0,1) = 1",
        shop(3) + "link('k',0,1,0,0); turn(0,48); life(0,2); turn(0,0) = 0; isBroken(0) = false; life(0,1); turn(0,0) = 0;"
            + "isBroken(0) = true",
        shop(3) + "link('k',0,1,0,0); turn(0,48); life(0,1); life(0,0); turn(2,1); isBroken(0) = false",
        shop(3) + "planets(0,1,2,6,6); life(0,1); turn(0,12); turn(1,12); isBroken(0) = false; turn(1,-1); isBroken(0) = true",
        shop(2) + "link('k',0,1,0,0); life(0,1); turn(0,25); isBroken(0) = true; life(0,999); turn(0,0); isBroken(0) = true; life(0,0);"
            + "turn(0,1); isBroken(0) = true");
  }

  private static void repair() {
    check(18, NO_LINK, shop(2) + "repair(0) throws Index; link('k',0,1,0,0); repair(1) throws Index",
        shop(2) + "link('k',0,1,0,0); life(0,1); turn(0,48);" + refusedBad("repair(#)", "Index",
        -1, 1) + "isBroken(0) = true; repair(0) = 0",
        shopOfClutches(13) + "life(12,1); turn(0,48); repair(13) throws Index; repair(12) = 0");
    check(18, "Throws `UnsupportedOperationException` if it is not broken",
        shop(2) + "link('k',0,1,0,0); repair(0) throws Unsupported; turn(0,24); repair(0) throws Unsupported; worn(0) = 1/1;"
            + "engage(0,false); repair(0) throws Unsupported; engage(0,true) = false; life(0,1); turn(0,1); repair(0) = 0;"
            + "repair(0) throws Unsupported");
    StringBuilder all = new StringBuilder(shopOfClutches(13));
    for (int i = 0; i < 13; i++) all.append("life(" + i + ",1);");
    all.append("turn(0,25) = 14;");
    StringBuilder repairs = new StringBuilder();
    for (int i = 12; i >= 0; i--) repairs.append("repair(" + i + ") = " + i + ";");
    check(18, "Returns how many are broken still.", all + "turn(0,1) = 1;" + repairs + "turn(0,1) = 14",
        all + "repair(0) = 12; repair(12) = 11; turn(0,1) = 3");
    check(18, FIRST_ONE, shop(2) + "link('k',0,1,0,0); repair(1) throws Index; repair(-1) throws Index; repair(0) throws Unsupported");
    check(18, "it is worn by 0 then, and a ratchet begins as if it was made then",
        shop(2) + "link('k',0,1,0,0); life(0,1); turn(0,25); repair(0) = 0; worn(0) = 0/1; turn(0,24) = 2; isBroken(0) = false;"
            + "turn(0,1) = 2; isBroken(0) = true",
        shop(2) + "link('r',0,1,3,0); life(0,1); turn(0,25); place(1) = 1/1; turn(0,-25) = 1; life(0,0); repair(0) = 0; turn(0,7) = 1;"
            + "turn(0,1) = 2; place(1) = 4/3",
        shop(2) + "link('r',0,1,3,0); life(0,1); turn(0,25); turn(0,22) = 1; repair(0) = 0; turn(0,1) = 2; place(1) = 4/3",
        shop(2) + "link('r',0,1,3,0); life(0,1); turn(0,25); turn(0,23) = 1; repair(0) = 0; turn(0,7) = 1; turn(0,1) = 2; place(1) = 4/3",
        shop(2) + "link('v',0,1,3,0); life(0,1); turn(0,25); turn(0,48) = 1; repair(0) = 0; turn(0,-1) = 1; turn(0,-1) = 2;"
            + "place(1) = 0/1");
  }

  private static void slackOf() {
    pair(19, NO_SHAFT, "slackOf(0) throws Index; shaft(); slackOf(0) = 0/1; slackOf(1) throws Index",
        shop(3) + refusedBad("slackOf(#)", "Index", -1, 3) + "slackOf(2) = 0/1",
        shopOfClutches(13) + "slack(12,99); slackOf(14) throws Index; slackOf(13) = 99/1");
    pair(19, "that of a shaft is that of its link, and that of what drives it, times how much it turns of one turn of that one, without"
            + " sign: a divided by b, for planets each by its own part, for a geneva a part of a, for others 1, whatever is broken or let"
            + " go; 0 of an input.",
        shop(4) + "link('g',0,1,30,6); link('i',1,2,30,6); link('g',2,3,30,6); slackOf(3) = 0/1; slack(0,99); slack(1,99); slack(2,99);"
            + "slackOf(0) = 0/1; slackOf(1) = 99/1; slackOf(2) = 594/1; slackOf(3) = 3069/1",
        shop(4) + "link('g',0,1,30,6); link('g',1,2,6,30); link('i',2,3,6,30); slack(0,1); slackOf(1) = 1/1; slackOf(2) = 1/5;"
            + "slackOf(3) = 1/25",
        shop(5) + "link('k',0,2,0,0); link('k',1,3,0,0); planets(2,3,4,6,12); slack(0,10); slackOf(4) = 10/3; slack(1,1);"
            + "slackOf(4) = 4/1; slack(2,99); slackOf(4) = 103/1",
        shop(4) + "link('k',0,1,0,0); link('v',1,2,12,0); link('r',1,3,24,0); slack(0,6); slackOf(2) = 1/2; slackOf(3) = 6/1; slack(1,5);"
            + "slackOf(2) = 11/2",
        shop(3) + "link('k',0,1,0,0); link('i',1,2,6,30); slack(0,5); slack(1,2); engage(0,false); slackOf(1) = 5/1; slackOf(2) = 3/1;"
            + "life(1,1); engage(0,true); turn(0,48); isBroken(1) = true; slackOf(2) = 3/1",
        manyPlanets() + "slack(0,99); slackOf(8) = 6534/1271; slack(6,1); slackOf(8) = 7805/1271");
  }

  // Promises 21 to 23

  private static void cam() {
    check(21, NO_SHAFT, "cam(0) throws Index; shaft(); cam(1) throws Index; cam(0) = 0", shop(3) + refusedBad("cam(#)", "Index",
        -1, 3) + "cam(2) = 0",
        shop(14) + "cam(14) throws Index; cam(13) = 0");
    check(21, "Throws `IllegalStateException` if there are 8",
        shop(1) + "cam(0) = 0; cam(0) = 1; cam(0) = 2; cam(0) = 3; cam(0) = 4; cam(0) = 5; cam(0) = 6; cam(0) = 7; cam(0) throws State;"
            + "cam(0) throws State; clear(7) = 0");
    check(21, "At most 8 cams are numbered from 0, each on a shaft, of segments",
        shop(2) + "clear(0) throws Index; cam(1) = 0; clear(0) = 0; clear(1) throws Index; segment(0,24,9,'u') = 24; cam(1) = 1;"
            + "clear(1) = 0; clear(0) = 1",
        shop(2) + "cam(1);".repeat(8) + "clear(7) = 0; clear(8) throws Index; segment(7,1,1,'u') = 1; segment(6,2,1,'u') = 2");
    check(21, FIRST_ONE, shop(1) + "cam(0);".repeat(8) + "cam(1) throws Index; cam(-1) throws Index; cam(0) throws State");
  }

  private static void segment() {
    check(22, NO_CAM, "segment(0,1,0,'u') throws Index; shaft(); cam(0); segment(1,1,0,'u') throws Index; segment(0,1,0,'u') = 1",
        shop(1) + "cam(0);" + refusedBad("segment(#,1,0,'u')", "Index", -1, 1),
        shop(1) + "cam(0);".repeat(8) + "segment(8,1,0,'u') throws Index; segment(7,1,0,'u') = 1");
    check(22, "Throws `IllegalArgumentException` if a number is out of range, or there is no such law",
        shop(1) + "cam(0);" + refusedBad("segment(0,#,0,'u')", "Argument",
        0, 25, -1) + "segment(0,1,0,'u') = 1; segment(0,0,0,'u') throws Argument; segment(0,23,0,'p') = 24",
        shop(1) + "cam(0); segment(0,25,0,'p') throws Argument; segment(0,24,0,'p') = 24; clear(0) = 1",
        shop(1) + "cam(0);" + refusedBad("segment(0,1,#,'p')", "Argument",
        -1, 100) + "segment(0,12,0,'u') = 12; segment(0,12,99,'u') = 24; heightOver(0) = 99",
        shop(1) + "cam(0);" + otherLaws("segment(0,1,0,#)") + "segment(0,1,0,'u') = 1; segment(0,1,0,'p') = 2");
    check(22, "each with parts, 1 to 24, a height, 0 to 99, to which it goes, and a law",
        shop(1) + "cam(0); segment(0,24,99,'u') = 24; height(0) = 99/1; clear(0) = 1; segment(0,24,0,'p') = 24; height(0) = 0/1");
    StringBuilder ones = new StringBuilder(shop(1) + "cam(0);");
    for (int i = 1; i <= 24; i++) ones.append("segment(0,1," + i + ",'u') = " + i + ";");
    check(22, "Throws `UnsupportedOperationException` if there would be more than 24 parts",
        ones + "segment(0,1,0,'u') throws Unsupported; segment(0,24,0,'p') throws Unsupported; clear(0) = 24; segment(0,1,1,'u') = 1",
        shop(1) + "cam(0); segment(0,20,0,'u') = 20; segment(0,5,0,'u') throws Unsupported; segment(0,24,0,'u') throws Unsupported;"
            + "segment(0,4,0,'u') = 24",
        shop(1) + "cam(0); segment(0,24,0,'u') = 24; segment(0,1,0,'u') throws Unsupported; clear(0) = 1",
        shop(1) + "cam(0); segment(0,1,0,'u') = 1; segment(0,24,0,'u') throws Unsupported; segment(0,23,0,'u') = 24");
    check(22, "Returns how many parts the cam has.",
        shop(1) + "cam(0); cam(0); segment(0,5,1,'u') = 5; segment(0,6,1,'u') = 11; segment(1,7,1,'u') = 7; clear(0);"
            + "segment(0,1,1,'u') = 1");
    check(22, FIRST_ONE,
        shop(1) + "cam(0); segment(1,0,100,'z') throws Index; segment(0,24,0,'u'); segment(0,25,0,'u') throws Argument;"
            + "segment(0,1,100,'u') throws Argument; segment(0,1,0,'z') throws Argument; segment(-1,1,0,'u') throws Index;"
            + "segment(0,1,0,'u') throws Unsupported");
  }

  private static String otherLaws(String call) {
    StringBuilder all = new StringBuilder();
    for (int c = 0; c < 256; c++) {
      if (c != 'u' && c != 'p') all.append(call.replace("#", "char " + c)).append(" throws Argument;");
    }
    for (int c : new int[] {'u' + 256, 'p' + 256, 'u' + 65280, 'p' + 65280, 65535}) {
      all.append(call.replace("#", "char " + c)).append(" throws Argument;");
    }
    return all.toString();
  }

  private static void clear() {
    check(23, NO_CAM, "clear(0) throws Index; shaft(); cam(0); clear(1) throws Index; clear(0) = 0",
        shop(1) + "cam(0); segment(0,1,0,'u');" + refusedBad("clear(#)", "Index", -1, 1) + "clear(0) = 1",
        shop(1) + "cam(0);".repeat(8) + "clear(8) throws Index; clear(7) = 0");
    check(23, "Returns how many there were.",
        shop(1) + "cam(0); clear(0) = 0; segment(0,24,0,'u'); clear(0) = 1; clear(0) = 0;" + "segment(0,1,5,'u');".repeat(24)
            + "clear(0) = 24; clear(0) = 0");
    check(23, "Takes all segments of a cam away; wishes stay.",
        shop(1) + "cam(0); cam(0); segment(0,24,7,'u'); segment(1,24,8,'u'); wish(0,0,1); wish(0,23,2); clear(0) = 1;"
            + "heightOver(0) throws Unsupported; heightOver(1) = 8; wish(0,5,-1) = 2; make(0,'u',1) = 2; clear(0) = 2;"
            + "segment(0,24,3,'u') = 24; heightOver(0) = 3");
  }

  // Promises 24 to 27

  private static void height() {
    pair(24, NO_CAM, "height(0) throws Index; shaft(); cam(0); height(1) throws Index; height(0) throws Unsupported",
        shop(1) + "cam(0); segment(0,24,1,'u');" + refusedBad("height(#)", "Index", -1, 1) + "height(0) = 1/1",
        shop(1) + "cam(0);".repeat(8) + "segment(7,24,2,'u'); height(8) throws Index; height(7) = 2/1");
    pair(24, NOT_WHOLE,
        shop(1) + "cam(0); height(0) throws Unsupported; segment(0,23,5,'u'); height(0) throws Unsupported; segment(0,1,7,'u');"
            + "height(0) = 7/1; clear(0); height(0) throws Unsupported",
        shop(1) + "cam(0); wish(0,0,0); height(0) throws Unsupported; make(0,'u',1); height(0) = 0/1");
    pair(24, FIRST_ONE, shop(1) + "cam(0); height(1) throws Index; height(-1) throws Index; height(0) throws Unsupported");
    pair(24, "A cam is whole with 24 parts; the first segment begins with the height of the last one.",
        shop(1) + "cam(0); segment(0,24,99,'u'); height(0) = 99/1; turn(0,12); height(0) = 99/1",
        shop(1) + "cam(0);" + "segment(0,1,4,'u');".repeat(23) + "height(0) throws Unsupported; segment(0,1,9,'p'); height(0) = 9/1;"
            + "turn(0,1); height(0) = 4/1",
        shop(1) + "cam(0); segment(0,4,0,'u'); segment(0,20,8,'u'); height(0) = 8/1; turn(0,1); height(0) = 6/1; turn(0,3);"
            + "height(0) = 0/1");
    pair(24, "behind a share t of its parts it has gone a share t, or twice t times t, for t up to a half, then 1 less twice the square of"
            + " what is left",
        shop(1) + "cam(0); segment(0,12,48,'p'); segment(0,12,0,'p'); height(0) = 0/1; turn(0,1); height(0) = 2/3; turn(0,4);"
            + "height(0) = 50/3; turn(0,1); height(0) = 24/1; turn(0,1); height(0) = 94/3; turn(0,4); height(0) = 142/3; turn(0,1);"
            + "height(0) = 48/1; turn(0,6); height(0) = 24/1; turn(0,5); height(0) = 2/3",
        shop(1) + "cam(0); segment(0,3,9,'p'); segment(0,21,0,'u'); height(0) = 0/1; turn(0,1); height(0) = 2/1; turn(0,1);"
            + "height(0) = 7/1; turn(0,1); height(0) = 9/1; turn(0,1); height(0) = 60/7; turn(0,19); height(0) = 3/7",
        shop(1) + "cam(0); segment(0,2,99,'p'); segment(0,22,0,'p'); turn(0,1); height(0) = 99/2; turn(0,12); height(0) = 99/2",
        shop(1) + "cam(0); segment(0,1,99,'p'); segment(0,1,0,'p'); segment(0,22,0,'u'); height(0) = 0/1; turn(0,1); height(0) = 99/1;"
            + "turn(0,1); height(0) = 0/1");
  }

  private static void heightRound() {
    StringBuilder ones = new StringBuilder();
    for (int i = 0; i < 24; i++) ones.append("segment(0,1," + (i + 1) % 24 + ",'u');");
    String one = shop(1) + "cam(0);" + ones;
    StringBuilder up = new StringBuilder(one);
    StringBuilder down = new StringBuilder(one);
    for (int i = 0; i <= 49; i++) up.append("heightOver(0) = " + i % 24 + "; heightUnder(0) = 1; turn(0,1);");
    for (int i = 0; i <= 49; i++) down.append("heightOver(0) = " + (48 - i % 24) % 24 + "; heightUnder(0) = 1; turn(0,-1);");
    String stands = "A cam stands at the part that is 24 times the place of its shaft, rounded down, modulo 24: as many parts behind the"
        + " beginning of the first segment.";
    pair(24, stands, up.toString(), down.toString(),
        one + "turn(0,23); height(0) = 23/1; turn(0,1); height(0) = 0/1; turn(0,-1); height(0) = 23/1",
        one + "turn(0,-1); height(0) = 23/1; turn(0,-23); height(0) = 0/1; turn(0,-1); height(0) = 23/1; turn(0,1);"
            + "height(0) = 0/1",
        shop(2) + "link('i',0,1,6,7); cam(1);" + ones + "turn(0,1); height(0) = 0/1; turn(0,1); height(0) = 1/1; turn(0,-2);"
            + "height(0) = 0/1; turn(0,-1); height(0) = 23/1; turn(0,-1); height(0) = 22/1",
        shop(2) + "link('g',0,1,30,6); cam(1);" + ones + "turn(0,1); height(0) = 19/1; turn(0,48); height(0) = 19/1; turn(0,-48);"
            + "turn(0,-1); height(0) = 0/1");
  }

  private static void steep() {
    pair(26, NO_CAM, "steep(0) throws Index; shaft(); cam(0); steep(1) throws Index; steep(0) throws Unsupported",
        shop(1) + "cam(0); segment(0,24,1,'u');" + refusedBad("steep(#)", "Index", -1, 1) + "steep(0) = 0/1",
        shop(1) + "cam(0);".repeat(8) + "segment(7,24,2,'u'); steep(8) throws Index; steep(7) = 0/1");
    pair(26, NOT_WHOLE,
        shop(1) + "cam(0); steep(0) throws Unsupported; segment(0,23,0,'u'); steep(0) throws Unsupported; segment(0,1,7,'u');"
            + "steep(0) = 7/1; clear(0); steep(0) throws Unsupported");
    pair(26, FIRST_ONE, shop(1) + "cam(0); steep(1) throws Index; steep(-1) throws Index; steep(0) throws Unsupported");
    pair(26, "How steep a cam is, is the greatest of its segments: how far the height goes, divided by the parts, twice that for 'p'.",
        shop(1) + "cam(0); segment(0,24,99,'p'); steep(0) = 0/1",
        shop(1) + "cam(0); segment(0,12,0,'u'); segment(0,12,99,'u'); steep(0) = 33/4",
        shop(1) + "cam(0); segment(0,12,0,'u'); segment(0,12,99,'p'); steep(0) = 33/2",
        shop(1) + "cam(0); segment(0,12,0,'p'); segment(0,12,99,'u'); steep(0) = 33/2",
        shop(1) + "cam(0); segment(0,1,99,'u'); segment(0,23,0,'u'); steep(0) = 99/1",
        shop(1) + "cam(0); segment(0,23,99,'u'); segment(0,1,0,'p'); steep(0) = 198/1",
        shop(1) + "cam(0); segment(0,8,10,'u'); segment(0,8,20,'u'); segment(0,8,0,'u'); steep(0) = 5/2; turn(0,1); steep(0) = 5/2",
        shop(1) + "cam(0); segment(0,23,1,'u'); segment(0,1,1,'u'); steep(0) = 0/1",
        shop(1) + "cam(0); segment(0,10,4,'u'); segment(0,14,0,'p'); steep(0) = 4/7");
  }

  // Promises 28 and 29

  private static void wish() {
    check(28, NO_CAM, "wish(0,0,0) throws Index; shaft(); cam(0); wish(1,0,0) throws Index; wish(0,0,0) = 1",
        shop(1) + "cam(0);" + refusedBad("wish(#,0,0)", "Index", -1, 1),
        shop(1) + "cam(0);".repeat(8) + "wish(8,0,0) throws Index; wish(7,0,0) = 1; wish(6,1,1) = 1");
    check(28, NUMBER_OUT,
        shop(1) + "cam(0);" + refusedBad("wish(0,#,5)", "Argument", -1, 24) + "wish(0,0,5) = 1; wish(0,23,5) = 2;"
            + "wish(0,24,-1) throws Argument; wish(0,22,-1) = 2",
        shop(1) + "cam(0);" + refusedBad("wish(0,0,#)", "Argument", -2, 100) + "wish(0,0,0) = 1; wish(0,1,99) = 2;"
            + "wish(0,1,100) throws Argument; wish(0,0,-2) throws Argument; wish(0,2,-1) = 2");
    check(28, "For a cam heights are wished at parts, 0 to 23.",
        shop(1) + "cam(0); wish(0,0,99) = 1; wish(0,23,0) = 2; make(0,'u',99) = 2; heightOver(0) = 99; turn(0,23); heightOver(0) = 0");
    check(28, "`height`: the height, -1 to take the wish away",
        shop(1) + "cam(0); wish(0,0,-1) = 0; wish(0,0,0) = 1; wish(0,0,99) = 1; wish(0,0,-1) = 0; wish(0,0,-1) = 0;"
            + "make(0,'u',99) throws Missing; wish(0,23,0) = 1; wish(0,23,-1) = 0");
    StringBuilder all = new StringBuilder(shop(1) + "cam(0); cam(0);");
    for (int i = 0; i < 24; i++) all.append("wish(0," + i + "," + i + ") = " + (i + 1) + ";");
    check(28, "Returns how many parts are wished.",
        all + "wish(0,23,5) = 24; wish(1,0,5) = 1; wish(0,23,-1) = 23; wish(0,23,-1) = 23; wish(0,0,-1) = 22; wish(1,0,6) = 1");
    check(28, FIRST_ONE, shop(1) + "cam(0); wish(1,24,100) throws Index; wish(-1,-1,-2) throws Index; wish(0,24,100) throws Argument");
  }

  private static void make() {
    check(29, NO_CAM, "make(0,'u',1) throws Index; shaft(); cam(0); wish(0,0,0); make(1,'u',1) throws Index; make(0,'u',1) = 1",
        shop(1) + "cam(0); wish(0,0,0);" + refusedBad("make(#,'u',1)", "Index", -1, 1),
        shop(1) + "cam(0);".repeat(8) + "wish(7,0,0); make(8,'u',1) throws Index; make(7,'u',1) = 1");
    check(29, "Throws `IllegalArgumentException` if there is no such law, or the bound is out of range",
        shop(1) + "cam(0); wish(0,0,0);" + otherLaws("make(0,#,9)") + "make(0,'u',9) = 1; make(0,'p',9) = 1",
        shop(1) + "cam(0); wish(0,0,0);" + refusedBad("make(0,'u',#)", "Argument",
        0, 100, -1) + "make(0,'u',1) = 1; make(0,'u',99) = 1; make(0,'u',100) throws Argument; make(0,'p',1) = 1");
    check(29, "`bound`: the bound, 1 to 99",
        shop(1) + "cam(0); wish(0,0,0); wish(0,1,1); make(0,'u',0) throws Argument; make(0,'u',1) = 2; wish(0,1,99);"
            + "make(0,'u',98) throws Unsupported; make(0,'u',100) throws Argument; make(0,'u',99) = 2; steep(0) = 99/1");
    check(29, "Throws `NoSuchElementException` if the part 0 is not wished",
        shop(1) + "cam(0); make(0,'u',99) throws Missing; wish(0,1,5); wish(0,23,5); make(0,'u',99) throws Missing; wish(0,0,5);"
            + "make(0,'u',99) = 3; wish(0,0,-1); make(0,'p',99) throws Missing; heightOver(0) = 5; clear(0) = 3");
    check(29, "Throws `UnsupportedOperationException` if it would be steeper",
        shop(1) + "cam(0); wish(0,0,0); wish(0,12,36); make(0,'u',2) throws Unsupported; make(0,'u',3) = 2;"
            + "make(0,'p',5) throws Unsupported; make(0,'p',6) = 2; steep(0) = 6/1",
        shop(1) + "cam(0); wish(0,0,0); wish(0,2,5); make(0,'u',2) throws Unsupported; heightOver(0) throws Unsupported;"
            + "make(0,'u',3) = 2; steep(0) = 5/2; make(0,'p',4) throws Unsupported; make(0,'p',5) = 2",
        shop(1) + "cam(0); wish(0,0,99); wish(0,1,0); make(0,'p',99) throws Unsupported; make(0,'u',98) throws Unsupported;"
            + "make(0,'u',99) = 2",
        shop(1) + "cam(0); segment(0,24,7,'u'); wish(0,0,0); wish(0,1,50); make(0,'u',49) throws Unsupported; heightOver(0) = 7;"
            + "clear(0) = 1; make(0,'u',50) = 2; clear(0) = 2");
    check(29, FIRST_ONE,
        shop(1) + "cam(0); make(1,'z',0) throws Index; make(0,'z',9) throws Argument; make(0,'u',0) throws Argument;"
            + "make(0,'z',100) throws Argument; wish(0,1,0); wish(0,2,99); make(0,'u',1) throws Missing; wish(0,0,0);"
            + "make(0,'z',1) throws Argument; make(0,'u',1) throws Unsupported; make(-1,'u',1) throws Index");
    check(29, "Returns how many segments it has.",
        shop(1) + "cam(0); wish(0,0,4); make(0,'u',1) = 1; clear(0) = 1; wish(0,12,4); make(0,'u',1) = 2;"
            + "segment(0,1,0,'u') throws Unsupported; make(0,'u',1) = 2; clear(0) = 2");
  }

  private static void makeRound() {
    StringBuilder all = new StringBuilder(shop(1) + "cam(0);");
    for (int i = 0; i < 24; i++) all.append("wish(0," + i + "," + i * 2 + ");");
    StringBuilder shown = new StringBuilder();
    for (int i = 0; i < 24; i++) shown.append("heightOver(0) = " + i * 2 + "; turn(0,1);");
    check(29, "Made by its wishes with a law, a cam goes from each wished part to the next one, round, the part 0 being wished;"
            + " it must not be steeper than a bound told.",
        all + "make(0,'u',45) throws Unsupported; make(0,'u',46) = 24;" + shown + "heightOver(0) = 0; steep(0) = 46/1; clear(0) = 24",
        shop(1) + "cam(0); wish(0,0,99); make(0,'p',1) = 1; height(0) = 99/1; turn(0,13); height(0) = 99/1; steep(0) = 0/1; clear(0) = 1",
        shop(1) + "cam(0); wish(0,0,10); wish(0,23,56); make(0,'u',45) throws Unsupported; make(0,'u',46) = 2; height(0) = 10/1;"
            + "turn(0,1); height(0) = 12/1; turn(0,22); height(0) = 56/1; turn(0,1); height(0) = 10/1; steep(0) = 46/1",
        shop(1) + "cam(0); wish(0,0,0); wish(0,1,23); make(0,'u',23) = 2; height(0) = 0/1; turn(0,1); height(0) = 23/1; turn(0,1);"
            + "height(0) = 22/1; turn(0,21); height(0) = 1/1",
        shop(1) + "cam(0); wish(0,0,0); wish(0,6,18); wish(0,18,6); make(0,'p',6) = 3; turn(0,-1); height(0) = 1/3; turn(0,-3);"
            + "height(0) = 14/3; turn(0,-2); height(0) = 6/1; turn(0,-6); height(0) = 12/1");
  }

  // Promises 30 to 32

  private static void drum() {
    check(30, NO_SHAFT, "drum(0) throws Index; shaft(); drum(1) throws Index; drum(0) = 0", shop(3) + refusedBad("drum(#)", "Index",
        -1, 3) + "drum(2) = 0",
        shop(14) + "drum(14) throws Index; drum(13) = 0");
    check(30, "Throws `IllegalStateException` if there are 4",
        shop(1) + "drum(0) = 0; drum(0) = 1; drum(0) = 2; drum(0) = 3; drum(0) throws State; drum(0) throws State; struck(3,7) = 0;"
            + "struck(4,7) throws Index");
    check(30, "At most 4 drums are numbered from 0, each on a shaft, with 24 parts and 8 tracks;"
            + " there can be a pin at each part of each track.",
        shop(2) + "struck(0,0) throws Index; drum(1) = 0; struck(0,0) = 0; struck(1,0) throws Index; drum(0) = 1;"
            + "pin(0,1,0,true) = false; turn(0,1); struck(0,0) = 0; turn(1,1); struck(0,0) = 1; struck(1,0) = 0",
        shop(1) + "drum(0);".repeat(4) + pinsOfTrack(3, 0) + pinsOfTrack(3, 7) + pinsOfTrack(2, 3) + "turn(0,24); struck(3,0) = 24;"
            + "struck(3,7) = 24; struck(2,3) = 24; struck(3,3) = 0; struck(0,0) = 0");
    check(30, FIRST_ONE, shop(1) + "drum(0);".repeat(4) + "drum(1) throws Index; drum(-1) throws Index; drum(0) throws State");
  }

  private static void pin() {
    check(31, NO_DRUM, "pin(0,0,0,true) throws Index; shaft(); drum(0); pin(1,0,0,true) throws Index; pin(0,0,0,true) = false",
        shop(1) + "drum(0);" + refusedBad("pin(#,0,0,true)", "Index", -1, 1),
        shop(1) + "drum(0);".repeat(4) + "pin(4,0,0,true) throws Index; pin(3,0,0,true) = false; pin(2,0,0,true) = false");
    check(31, NUMBER_OUT,
        shop(1) + "drum(0);" + refusedBad("pin(0,#,0,true)", "Argument", -1, 24) + refusedBad("pin(0,#,7,false)", "Argument",
        -1, 24) + "pin(0,0,0,true) = false; pin(0,23,0,true) = false",
        shop(1) + "drum(0);" + refusedBad("pin(0,0,#,true)", "Argument", -1, 8, 32, -32) + refusedBad("pin(0,23,#,false)", "Argument",
        -1, 8) + "pin(0,0,0,true) = false; pin(0,0,7,true) = false");
    check(31, "`part`: the part, 0 to 23",
        shop(1) + "drum(0); pin(0,0,3,true) = false; pin(0,23,3,true) = false; turn(0,22); struck(0,3) = 0; turn(0,1); struck(0,3) = 1;"
            + "turn(0,1); struck(0,3) = 2");
    check(31, "`track`: the track, 0 to 7",
        shop(1) + "drum(0); pin(0,1,0,true) = false; pin(0,1,7,true) = false; turn(0,1); struck(0,0) = 1; struck(0,7) = 1;"
            + "struck(0,1) = 0; struck(0,6) = 0");
    check(31, "Returns whether there was.",
        shop(1) + "drum(0); pin(0,23,7,false) = false; pin(0,23,7,true) = false; pin(0,23,7,true) = true; pin(0,23,7,false) = true;"
            + "pin(0,23,7,false) = false; pin(0,23,7,true) = false",
        shop(1) + "drum(0); drum(0);" + pinsOfTrack(0, 7) + pinsOfTrack(0, 0) + pinsOfTrack(1, 7)
            + "pin(0,0,7,true) = true; pin(0,23,0,false) = true; pin(1,0,0,true) = false");
    check(31, FIRST_ONE,
        shop(1) + "drum(0); pin(1,24,8,true) throws Index; pin(-1,-1,-1,true) throws Index; pin(0,24,8,true) throws Argument");
  }

  private static void struck() {
    check(32, NO_DRUM, "struck(0,0) throws Index; shaft(); drum(0); struck(1,0) throws Index; struck(0,0) = 0",
        shop(1) + "drum(0);" + refusedBad("struck(#,0)", "Index", -1, 1),
        shop(1) + "drum(0);".repeat(4) + "struck(4,0) throws Index; struck(3,0) = 0");
    check(32, OUT_OF_RANGE, shop(1) + "drum(0); pin(0,1,0,true); pin(0,1,7,true);" + refusedBad("struck(0,#)", "Argument",
        -1, 8) + "turn(0,1); struck(0,0) = 1; struck(0,7) = 1; struck(0,8) throws Argument");
    check(32, "`track`: the track, 0 to 7",
        shop(1) + "drum(0); struck(0,0) = 0; struck(0,7) = 0; pin(0,0,7,true); turn(0,-1); struck(0,7) = 1; struck(0,0) = 0");
    check(32, "Returns how often.",
        shop(1) + "drum(0); struck(0,4) = 0; pin(0,0,4,true); turn(0,0); struck(0,4) = 0; turn(0,23); struck(0,4) = 0; turn(0,1);"
            + "struck(0,4) = 1; turn(0,48); struck(0,4) = 3; pin(0,0,4,false); turn(0,48); struck(0,4) = 3");
    check(32, FIRST_ONE, shop(1) + "drum(0); struck(1,8) throws Index; struck(-1,-1) throws Index; struck(0,-1) throws Argument");
  }

  private static void struckRound() {
    String strikes = "As 24 times the place of the shaft, rounded down, goes up to a number in a step, or down from one, each pin at the"
        + " part that is this number modulo 24 strikes its track once, also where it goes by several.";
    String ends = shop(1) + "drum(0); pin(0,0,0,true); pin(0,23,1,true); pin(0,1,2,true);";
    String fast = shop(3) + "link('i',0,1,30,6); link('i',1,2,30,6); drum(1); drum(2);" + pinsOfTrack(1, 0)
        + "pin(1,0,1,true); pin(1,1,2,true); pin(0,5,0,true); pin(0,0,1,true); pin(0,6,2,true);";
    check(32, strikes,
        ends + "turn(0,1); struck(0,2) = 1; struck(0,0) = 0; turn(0,-1); struck(0,2) = 2; struck(0,0) = 0; turn(0,-1); struck(0,0) = 1;"
            + "struck(0,1) = 0; turn(0,-1); struck(0,1) = 1; turn(0,1); struck(0,1) = 2; struck(0,0) = 1; turn(0,1); struck(0,0) = 2",
        ends + "turn(0,22); struck(0,1) = 0; turn(0,1); struck(0,1) = 1; struck(0,0) = 0; turn(0,1); struck(0,0) = 1; turn(0,1);"
            + "struck(0,2) = 2; turn(0,-1); struck(0,2) = 3; turn(0,-1); struck(0,0) = 2; turn(0,-1); struck(0,1) = 2",
        ends + "turn(0,-23); struck(0,0) = 1; struck(0,1) = 1; struck(0,2) = 0; turn(0,-1); struck(0,2) = 1; struck(0,0) = 1; turn(0,-1);"
            + "struck(0,0) = 2; turn(0,-48); struck(0,0) = 4; struck(0,1) = 3; struck(0,2) = 3",
        fast + "turn(0,1); struck(1,0) = 25; struck(1,1) = 1; struck(1,2) = 2; struck(0,0) = 1; struck(0,1) = 0; struck(0,2) = 0;"
            + "turn(0,-1); struck(1,0) = 50; struck(1,1) = 2; struck(1,2) = 4; struck(0,0) = 2",
        fast + "turn(0,-1); struck(1,0) = 25; struck(1,1) = 2; struck(1,2) = 1; struck(0,0) = 0; struck(0,1) = 1; turn(0,-48);"
            + "struck(1,0) = 1225; struck(0,1) = 11",
        shop(2) + "link('g',0,1,6,12); drum(1); pin(0,23,0,true); pin(0,0,1,true); turn(0,1); struck(0,0) = 0; struck(0,1) = 1;"
            + "turn(0,1); struck(0,0) = 0; turn(0,1); struck(0,0) = 1; turn(0,-1); struck(0,0) = 2; turn(0,-1); struck(0,0) = 2;"
            + "turn(0,-1); struck(0,1) = 2",
        shop(2) + "link('v',0,1,3,0); drum(1);" + pinsOfTrack(0, 5) + "turn(0,23); struck(0,5) = 0; turn(0,1); struck(0,5) = 8;"
            + "turn(0,-1); struck(0,5) = 16",
        shop(2) + "drum(1); pin(0,0,0,true); turn(0,48); struck(0,0) = 0; turn(1,24); struck(0,0) = 1");
  }

  // Promises 33 to 37

  private static void bars() {
    String words = "Four bars, a crank, a coupler, a follower and a ground, 1 to 999 each, are 'x' if the longest is as long as the others"
        + " together or longer";
    check(33, NUMBER_OUT, refusedBars("bars(@)"),
        "bars(1,1,1,1) = 'e'; bars(999,999,999,999) = 'e'; bars(1,999,999,999) = 'c'; bars(999,1,1,1) = 'x'");
    check(33, words,
        "bars(3,1,1,1) = 'x'; bars(1,3,1,1) = 'x'; bars(1,1,3,1) = 'x'; bars(1,1,1,3) = 'x'; bars(4,1,1,1) = 'x'; bars(1,999,1,1) = 'x'",
        "bars(2,1,1,1) = 't'; bars(1,2,1,1) = 't'; bars(999,333,333,333) = 'x'; bars(998,333,333,333) = 't'; bars(333,333,999,334) = 't';"
            + "bars(1,499,499,999) = 'x'; bars(1,499,500,999) = 't'");
    check(33, "otherwise, with the shortest and longest together less than the other two, 'c' if the crank is shortest, 'r' if the"
            + " follower, 'd' if the ground, 'o' if the coupler; of several shortest ones the first one in this order;"
            + " 'e' with as much, 't' with more.",
        "bars(10,40,30,21) = 'c'; bars(10,40,30,20) = 'e'; bars(10,40,30,19) = 't'",
        "bars(30,40,10,21) = 'r'; bars(30,40,10,20) = 'e'; bars(30,40,10,19) = 't'",
        "bars(30,40,21,10) = 'd'; bars(30,40,20,10) = 'e'; bars(30,40,19,10) = 't'",
        "bars(30,10,40,21) = 'o'; bars(30,10,40,20) = 'e'; bars(30,10,40,19) = 't'",
        "bars(1,2,2,2) = 'c'; bars(2,1,2,2) = 'o'; bars(2,2,1,2) = 'r'; bars(2,2,2,1) = 'd'",
        "bars(1,1,2,2) = 'e'; bars(1,2,1,2) = 'e'; bars(2,1,1,2) = 'e'; bars(5,5,6,7) = 't'; bars(7,6,5,5) = 't'; bars(2,2,2,3) = 't'");
  }

  /** The call with four bars in place of the sign @, each of them in turn too short or too long. */
  private static String refusedBars(String call) {
    StringBuilder all = new StringBuilder();
    for (int i = 0; i < 4; i++) {
      String[] bars = {"5", "6", "7", "8"};
      bars[i] = "#";
      all.append(refusedBad(call.replace("@", String.join(",", bars)), "Argument", 0, 1000, -5));
    }
    return all.toString();
  }

  private static void limit() {
    pair(34, NUMBER_OUT, refusedBars("limit(@,true)"), refusedBars("limit(@,false)"), "limit(1,1,999,999,true) = 997999/998001",
        "limit(999,998,1,1,false) = 1/2; limit(999,998,999,999,true) = -1992007/1996002; limit(998,999,999,999,false) = 1996001/1996002");
    pair(34, NO_TRIANGLE,
        "limit(10,10,30,35,false) throws Missing; limit(30,36,30,35,true) throws Missing; limit(36,40,30,35,false) throws Missing;"
            + "limit(999,999,1,1,true) throws Missing");
    pair(34, FIRST_ONE,
        "limit(0,1,1,1,false) throws Argument; limit(10,10,30,1000,false) throws Argument; limit(1000,1000,1,1,true) throws Argument;"
            + "limit(1,1,1,1,true) throws Missing");
    pair(34, "The limit, outer or inner, is the cosine of the angle at the ground between the follower and the ground, as crank and"
            + " coupler are in line, their sum or difference being a side.",
        "limit(10,40,30,35,true) = -5/28; limit(10,40,30,35,false) = 7/12; limit(40,10,30,35,true) = -5/28;"
            + "limit(40,10,30,35,false) = 7/12; limit(10,40,35,30,false) = 7/12");
    pair(34, "A side of a triangle must be above 0, and less than both others together, and more than their difference.",
        "limit(10,10,30,30,false) throws Missing; limit(10,11,30,30,false) = 1799/1800; limit(11,10,30,30,false) = 1799/1800",
        "limit(30,35,30,35,true) throws Missing; limit(30,34,30,35,true) = -657/700; limit(1,1,1,1,true) throws Missing;"
            + "limit(1,1,2,1,true) = 1/4",
        "limit(35,40,30,35,false) throws Missing; limit(34,40,30,35,false) = 2089/2100; limit(4,1,35,30,true) throws Missing;"
            + "limit(5,1,35,30,true) = 2089/2100",
        "limit(1,66,30,35,false) throws Missing; limit(1,65,30,35,false) = -657/700; limit(1,2,1,999,false) throws Missing;"
            + "limit(1,998,1,999,true) = 1/1998");
    pair(34, LOWEST_TERMS, "limit(3,2,4,3,true) = 0/1; limit(1,6,3,4,false) = 0/1; limit(2,1,3,3,true) = 1/2; limit(5,2,3,5,true) = -1/2");
  }

  private static void angle() {
    pair(36, NUMBER_OUT, refusedBars("angle(@,true)"), refusedBars("angle(@,false)"),
        "angle(999,1,1,998,false) = 1/2; angle(999,999,999,998,true) = -1992007/1996002; angle(998,999,999,999,false) = 1996001/1996002");
    pair(36, NO_TRIANGLE,
        "angle(35,40,30,35,false) throws Missing; angle(35,40,30,35,true) throws Missing; angle(10,40,30,20,false) throws Missing;"
            + "angle(999,1,1,999,true) throws Missing");
    pair(36, FIRST_ONE,
        "angle(0,1,1,1,false) throws Argument; angle(10,30,1000,10,false) throws Argument; angle(1000,1,1,1000,true) throws Argument;"
            + "angle(1,1,1,1,true) throws Missing");
    pair(36, "The cosine of the angle between coupler and follower is asked as crank and ground are in line, their sum or difference being"
            + " a side.",
        "angle(10,40,30,35,false) = 25/32; angle(10,40,30,35,true) = 19/96; angle(35,40,30,10,false) = 25/32;"
            + "angle(35,40,30,10,true) = 19/96; angle(10,30,40,35,true) = 19/96");
    pair(36, "A side of a triangle must be above 0, and less than both others together, and more than their difference.",
        "angle(10,30,30,10,false) throws Missing; angle(10,30,30,11,false) = 1799/1800; angle(11,30,30,10,false) = 1799/1800",
        "angle(30,30,35,35,true) throws Missing; angle(30,30,35,34,true) = -657/700; angle(1,1,1,1,true) throws Missing;"
            + "angle(1,2,1,1,true) = 1/4",
        "angle(35,30,35,40,false) throws Missing; angle(34,30,35,40,false) = 2089/2100; angle(4,35,30,1,true) throws Missing;"
            + "angle(5,35,30,1,true) = 2089/2100",
        "angle(1,30,35,66,false) throws Missing; angle(1,30,35,65,false) = -657/700; angle(1,1,999,2,false) throws Missing;"
            + "angle(1,1,999,998,true) = 1/1998");
    pair(36, LOWEST_TERMS, "angle(3,4,3,2,true) = 0/1; angle(1,3,4,6,false) = 0/1; angle(2,3,3,1,true) = 1/2; angle(5,3,5,2,true) = -1/2");
  }

  // Promises 38 and 39

  private static void teeth() {
    String all = refusedBad("teeth(#,1,true)", "Argument", 0, 10000, -1) + refusedBad("teeth(1,#,false)", "Argument", 0, 10000, -1);
    check(38, NUMBER_OUT,
        all, "teeth(0,0,true) throws Argument; teeth(10000,10000,false) throws Argument; teeth(9999,9999,true) = 6; teeth(1,1,false) = 6");
    check(38, "`over`: the upper number, 1 to 9999",
        "teeth(9999,1,true) = 30; teeth(9999,1,false) = 6; teeth(1,1,true) = 6; teeth(10000,1,true) throws Argument;"
            + "teeth(0,1,true) throws Argument");
    check(38, "`under`: the lower number, 1 to 9999",
        "teeth(1,9999,true) = 6; teeth(1,9999,false) = 30; teeth(1,1,true) = 6; teeth(1,10000,true) throws Argument;"
            + "teeth(1,0,true) throws Argument");
    check(38, "For a ratio the pair of teeth, 6 to 30 each, is chosen whose first one divided by the other one is nearest, of several with"
            + " the least sum, then with the lesser first one.",
        "teeth(5,1,true) = 30; teeth(5,1,false) = 6; teeth(1,5,true) = 6; teeth(1,5,false) = 30; teeth(29,30,true) = 29;"
            + "teeth(29,30,false) = 30; teeth(31,30,true) = 30; teeth(31,30,false) = 29",
        "teeth(2,1,true) = 12; teeth(2,1,false) = 6; teeth(1,2,true) = 6; teeth(1,2,false) = 12; teeth(2000,1000,true) = 12;"
            + "teeth(10,12,true) = 10; teeth(10,12,false) = 12; teeth(5,6,true) = 10; teeth(5,6,false) = 12",
        "teeth(19,4,true) = 28; teeth(19,4,false) = 6; teeth(53,12,true) = 26; teeth(53,12,false) = 6; teeth(55,14,true) = 24;"
            + "teeth(55,14,false) = 6; teeth(55,168,true) = 6; teeth(55,168,false) = 18; teeth(57,116,true) = 6; teeth(57,116,false) = 12",
        "teeth(59,290,true) = 6; teeth(59,290,false) = 29; teeth(181,780,true) = 6; teeth(181,780,false) = 26; teeth(71,300,true) = 6;"
            + "teeth(71,300,false) = 25");
  }

  private static void pairs() {
    check(39, NUMBER_OUT, refusedBad("pairs(#,1)", "Argument", 0, 10000, -1) + refusedBad("pairs(1,#)", "Argument", 0, 10000, -1),
        "pairs(0,0) throws Argument; pairs(10000,10000) throws Argument; pairs(9999,9999) = 25; pairs(1,1) = 25");
    check(39, "`over`: the upper number, 1 to 9999",
        "pairs(9999,1) = 0; pairs(9999,9999) = 25; pairs(1,1) = 25; pairs(10000,1) throws Argument; pairs(0,1) throws Argument");
    check(39, "`under`: the lower number, 1 to 9999",
        "pairs(1,9999) = 0; pairs(9999,9999) = 25; pairs(1,1) = 25; pairs(1,10000) throws Argument; pairs(1,0) throws Argument");
    check(39, "Returns how many pairs of teeth have a ratio.",
        "pairs(5,1) = 1; pairs(1,5) = 1; pairs(6,1) = 0; pairs(31,6) = 0; pairs(30,31) = 0; pairs(30,29) = 1; pairs(29,30) = 1;"
            + "pairs(2,1) = 10; pairs(1,2) = 10; pairs(2,4) = 10; pairs(3333,9999) = 5; pairs(5,6) = 4; pairs(7,1) = 0; pairs(30,7) = 1");
  }

  // Promises 40 to 43

  private static void checksum() {
    long[] wide = new long[28];
    for (int i = 0; i < 14; i++) {
      wide[2 * i] = -2;
      wide[2 * i + 1] = 1;
    }
    long[] struck = new long[2 + 32];
    struck[0] = 5;
    struck[1] = 24;
    for (int i = 0; i < 8; i++) struck[2 + 3 * 8 + i] = i == 7 ? 1 : 0;
    struck[2] = 2;
    check(40, "Returns 7 at first, then for each shaft 31 times itself plus the upper number of its place, then likewise plus the lower"
            + " one, then for each drum and track likewise plus how often it was struck.",
        "checksum() = 7; shaft(); checksum() = " + sum(0, 1) + "; shaft(); checksum() = " + sum(0, 1, 0, 1),
        shop(2) + "turn(1,-5); checksum() = " + sum(0, 1, -5, 24), shopOfClutches(13) + "turn(0,-48); checksum() = " + sum(wide),
        shop(1) + "drum(0);".repeat(4) + "pin(0,1,0,true); pin(0,2,0,true); pin(3,3,7,true); turn(0,5); checksum() = " + sum(struck),
        shop(1) + "drum(0); checksum() = " + sum(0, 1, 0, 0, 0, 0, 0, 0, 0, 0));
  }

  private static long sum(long... numbers) {
    long sum = 7;
    for (long one : numbers) sum = sum * 31 + one;
    return sum;
  }

  private static void drivenShare() {
    check(41, "Throws `ArithmeticException` if there are none", "drivenShare() throws Arithmetic; shaft(); drivenShare() = 0.0");
    check(41, "Returns their number divided by that of all, both converted to float.", shop(14) + "drivenShare() = 0.0",
        shop(2) + "link('k',0,1,0,0); drivenShare() = 0.5",
        shop(3) + "planets(0,1,2,6,6); drivenShare() = " + 1f / 3f, shop(2) + "link('k',1,0,0,0); drivenShare() = 0.5",
        shopOfClutches(13) + "drivenShare() = " + 13f / 14f);
  }

  private static void meanWorn() {
    check(42, "Throws `ArithmeticException` if there are none", "meanWorn() throws Arithmetic",
        shop(14) + "meanWorn() throws Arithmetic; link('k',0,1,0,0); meanWorn() = 0.0");
    check(42, "Returns for each link in order the upper number divided by the lower one, both converted to double, added to the sum, 0.0"
            + " at first; the sum divided by the number of links, converted to double.",
        shop(2) + "link('k',0,1,0,0); meanWorn() = 0.0; turn(0,1); meanWorn() = " + 1.0 / 24.0,
        shop(4) + "link('g',0,1,6,7); link('g',1,2,6,7); link('g',2,3,6,7); turn(0,-1); meanWorn() = "
            + (0.0 + 1.0 / 24.0 + 1.0 / 28.0 + 3.0 / 98.0) / 3.0,
        shopOfClutches(13) + "turn(0,48); meanWorn() = 2.0");
  }

  private static void isSound() {
    String due = "Returns whether the last turning, done anew from the places ahead of it, with the links as they were, leads to the same"
        + " places;  places of inputs times 24 are whole; no shaft is driven by itself; and whole cams end as high as they begin.";
    check(43, due, "isSound() = true; shaft(); isSound() = true; turn(0,0); isSound() = true; turn(0,-48); isSound() = true;"
            + "isSound() = true",
        shop(3) + "link('k',0,1,0,0); turn(0,5); link('g',1,2,6,7); isSound() = true; engage(0,false); isSound() = true; turn(0,1);"
            + "engage(0,true); isSound() = true",
        shop(3) + "turn(1,1); link('g',0,1,7,11); isSound() = true; turn(0,1); isSound() = true; link('k',2,0,0,0); isSound() = true;"
            + "turn(2,-1); isSound() = true",
        shop(2) + "link('r',0,1,3,0); life(0,1); turn(0,48); isBroken(0) = true; isSound() = true; turn(0,-9); isSound() = true;"
            + "repair(0); isSound() = true; turn(0,8); isSound() = true",
        toAndFro() + "turn(0,-24); isSound() = true; turn(0,49) throws Argument; isSound() = true",
        manyPlanets() + "turn(0,47); isSound() = true; turn(1,-48); isSound() = true",
        shopOfClutches(13) + "turn(0,48); isSound() = true",
        shop(1) + "cam(0); isSound() = true; segment(0,12,7,'p'); isSound() = true; segment(0,12,9,'p'); isSound() = true; clear(0);"
            + "segment(0,24,5,'u'); isSound() = true; wish(0,0,1); wish(0,23,2); make(0,'p',99); isSound() = true");
  }

  // Refused calls

  /** Each refused call of each method in a shop where much could be changed by it. */
  private static void changesNothing() {
    String[] refusals = {
      "2 shaft() throws State",
      "3 link('z',0,12,0,0) throws Argument; link('k',-1,12,0,0) throws Index; link('k',0,14,0,0) throws Index;"
          + "link('g',0,12,5,6) throws Argument; link('v',0,12,3,1) throws Argument; link('g',12,12,6,6) throws Unsupported;"
          + "link('r',12,3,5,0) throws Unsupported; link('k',8,0,0,0) throws Unsupported; link('r',5,12,5,0) throws Unsupported;"
          + "link('k',12,2,0,0) = 9",
      "4 planets(0,1,14,6,6) throws Index; planets(0,1,12,5,6) throws Argument; planets(0,0,12,6,6) throws Unsupported;"
          + "planets(12,13,3,6,6) throws Unsupported; planets(4,12,0,6,6) throws Unsupported; planets(5,12,13,6,6) throws Unsupported;"
          + "planets(12,5,13,6,6) throws Unsupported; planets(0,2,13,6,6) = 9",
      "5 engage(9,true) throws Index; engage(-1,true) throws Index; engage(0,false) throws Unsupported;"
          + "engage(5,false) throws Unsupported; engage(7,true) throws Unsupported",
      "6 life(9,1) throws Index; life(-1,1) throws Index; life(0,1000) throws Argument; life(7,-1) throws Argument; life(0,998) = 999",
      "7 slack(9,1) throws Index; slack(-1,1) throws Index; slack(0,100) throws Argument; slack(5,-1) throws Argument; slack(5,98) = 99",
      "8 turn(14,1) throws Index; turn(-1,1) throws Index; turn(0,49) throws Argument; turn(2,-49) throws Argument;"
          + "turn(3,1) throws Unsupported; turn(10,1) throws Unsupported; turn(9,48) throws Unsupported",
      "9 placeOver(14) throws Index; placeOver(-1) throws Index",
      "10 placeUnder(14) throws Index; placeUnder(-1) throws Index",
      "11 ratioOver(14,0) throws Index; ratioOver(0,14) throws Index; ratioOver(0,3) throws Unsupported;"
          + "ratioOver(5,0) throws Unsupported; ratioOver(6,0) throws Unsupported",
      "12 ratioUnder(14,0) throws Index; ratioUnder(0,14) throws Index; ratioUnder(0,3) throws Unsupported;"
          + "ratioUnder(5,0) throws Unsupported; ratioUnder(6,0) throws Unsupported",
      "13 driver(14) throws Index; driver(-1) throws Index; driver(0) throws Missing; driver(12) throws Missing",
      "15 wornOver(9) throws Index; wornOver(-1) throws Index",
      "16 wornUnder(9) throws Index; wornUnder(-1) throws Index",
      "17 isBroken(9) throws Index; isBroken(-1) throws Index",
      "18 repair(9) throws Index; repair(-1) throws Index; repair(0) throws Unsupported; repair(3) throws Unsupported;"
          + "repair(6) throws Unsupported; repair(7) = 0; repair(7) throws Unsupported",
      "19 slackOfOver(14) throws Index; slackOfOver(-1) throws Index",
      "20 slackOfUnder(14) throws Index; slackOfUnder(-1) throws Index",
      "21 cam(14) throws Index; cam(-1) throws Index; cam(0) throws State",
      "22 segment(8,1,0,'u') throws Index; segment(1,0,0,'u') throws Argument; segment(1,25,0,'u') throws Argument;"
          + "segment(1,1,100,'u') throws Argument; segment(1,1,-1,'u') throws Argument; segment(1,1,1,'x') throws Argument;"
          + "segment(1,15,9,'u') throws Unsupported; segment(0,1,9,'u') throws Unsupported; segment(1,14,8,'u') = 24",
      "23 clear(8) throws Index; clear(-1) throws Index",
      "24 heightOver(8) throws Index; heightOver(-1) throws Index; heightOver(1) throws Unsupported; heightOver(2) throws Unsupported",
      "25 heightUnder(8) throws Index; heightUnder(-1) throws Index; heightUnder(1) throws Unsupported; heightUnder(2) throws Unsupported",
      "26 steepOver(8) throws Index; steepOver(-1) throws Index; steepOver(1) throws Unsupported; steepOver(2) throws Unsupported",
      "27 steepUnder(8) throws Index; steepUnder(-1) throws Index; steepUnder(1) throws Unsupported; steepUnder(2) throws Unsupported",
      "28 wish(8,0,0) throws Index; wish(2,24,0) throws Argument; wish(2,-1,0) throws Argument; wish(2,0,-2) throws Argument;"
          + "wish(2,1,100) throws Argument; wish(2,8,100) throws Argument",
      "29 make(8,'u',9) throws Index; make(0,'x',99) throws Argument; make(0,'u',100) throws Argument; make(2,'u',0) throws Argument;"
          + "make(7,'u',9) throws Missing; make(0,'u',98) throws Unsupported; make(2,'u',3) throws Unsupported;"
          + "make(0,'p',99) throws Unsupported; steepOver(0) = 10",
      "30 drum(14) throws Index; drum(-1) throws Index; drum(0) throws State",
      "31 pin(4,0,0,true) throws Index; pin(0,24,0,true) throws Argument; pin(0,-1,0,true) throws Argument;"
          + "pin(0,0,8,true) throws Argument; pin(0,3,-1,false) throws Argument; pin(0,27,2,false) throws Argument;"
          + "pin(0,3,10,false) throws Argument; pin(0,3,34,false) throws Argument",
      "32 struck(4,0) throws Index; struck(-1,0) throws Index; struck(0,8) throws Argument; struck(0,-1) throws Argument",
      "33 bars(0,1,1,1) throws Argument; bars(1,1,1,1000) throws Argument",
      "34 limitOver(0,1,1,1,true) throws Argument; limitOver(1,1,1,1,true) throws Missing",
      "35 limitUnder(0,1,1,1,true) throws Argument; limitUnder(1,1,1,1,true) throws Missing",
      "36 angleOver(0,1,1,1,true) throws Argument; angleOver(1,1,1,1,true) throws Missing",
      "37 angleUnder(0,1,1,1,true) throws Argument; angleUnder(1,1,1,1,true) throws Missing",
      "38 teeth(0,1,true) throws Argument; teeth(1,10000,true) throws Argument",
      "39 pairs(0,1) throws Argument; pairs(1,10000) throws Argument",
    };
    for (String one : refusals) {
      int gap = one.indexOf(' ');
      check(Integer.parseInt(one.substring(0, gap)), CHANGES_NOTHING, fullShop() + one.substring(gap + 1));
    }
    check(41, CHANGES_NOTHING, "drivenShare() throws Arithmetic; freedom() = 0");
    check(42, CHANGES_NOTHING, shop(14) + "turn(3,5); meanWorn() throws Arithmetic; freedom() = 14");
  }
}
