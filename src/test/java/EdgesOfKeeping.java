/** The edges of promises 25 to 29: x and its DRAWS, what is counted, IMAGES. */
final class EdgesOfKeeping extends Edge {
  // What is earned in HOUR 9 tells how often there was FROST in HOURS 0 to 8: 1, and 1 for each.
  private static final String METER = "lane 10 0;brother 0 0" + meter();
  private static final String COLD = "lane 3 5;brother 0 1;brother 2 2;wet 1 9;want 0 1 1 4;want 1 1 3 6";

  private static String meter() {
    StringBuilder wants = new StringBuilder();
    for (int place = 0; place < 10; place++) wants.append(";want 0 ").append(place).append(" 9 ").append(place + 1);
    return wants.toString();
  }

  private static OneBoots drawing(int x) {
    OneBoots o = ruled(METER, "walk frost");
    o.seed(x);
    return o;
  }

  // ---- 25: seed ----------------------------------------------------------------------------

  @Says({"x becomes a number: what it was; NONE, and nothing happens, below 0.", "x (0 to 2147483647; 0 at first)"})
  static void promise25_below0() {
    OneBoots o = new OneBoots();
    due("0 at first", o.seed(7), 0);
    quiet("-1", o, () -> o.seed(-1), NONE);
    quiet("deep", o, () -> o.seed(DEEP), NONE);
    due("what it was", o.seed(0), 7);
    due("0", o.seed(FAR), 0);
    due("far", o.count(13), FAR);
    due("what it was", o.seed(1), FAR);
    due("no act", o.count(12), 0);
  }

  // ---- 26: winters -------------------------------------------------------------------------

  @Says("x * 1103515245 + 12345, of 2147483648 the rest; a DRAW is x / 65536.")
  static void promise26_draws() {
    // from 0 the DRAWS mod 100 are 0, 68, 88, 17, 98, 27, 45, 41, 22
    int[][] from0 = {{0, 1}, {1, 2}, {17, 2}, {18, 3}, {22, 3}, {23, 4}, {27, 4}, {28, 5}, {41, 5}, {42, 6}, {45, 6}, {46, 7},
        {68, 7}, {69, 8}, {88, 8}, {89, 9}, {98, 9}, {99, 10}, {100, 10}};
    for (int[] p : from0) due("from 0, p " + p[0], drawing(0).winters(1, 10, p[0], 0), p[1]);
    due("from 1", drawing(1).winters(1, 10, 50, 0), 8);
    due("from 42", drawing(42).winters(1, 10, 50, 0), 3);
    due("from 65536", drawing(65536).winters(1, 10, 50, 0), 5);
    due("from the greatest", drawing(FAR).winters(1, 10, 50, 0), 7);
  }

  @Says("ahead of each a DRAW mod 100: below p (0 to 100) that HOUR has FROST, too")
  static void promise26_belowP() {
    // from 194 the first DRAW mod 100 is 99
    OneBoots o = ruled("lane 2 0;brother 0 0;want 0 1 1 5", "walk frost");
    o.seed(194);
    due("99 is not below 99", o.winters(1, 2, 99, 0), 0);
    due("99 is below 100", o.winters(1, 2, 100, 0), 5);
    o.seed(0);
    due("0 is not below 0", o.winters(1, 2, 0, 0), 0);
    due("0 is below 1", o.winters(1, 2, 1, 0), 5);
    due("-1", o.winters(1, 2, -1, 0), NONE);
    due("101", o.winters(1, 2, 101, 0), NONE);
  }

  @Says("that HOUR has FROST, too")
  static void promise26_frostToo() {
    OneBoots told = ruled(METER + ";frost 3 5", "walk frost");
    due("what is told stays", told.winters(1, 10, 0, 0), 4);
    due("both", told.winters(1, 10, 1, 0), 5);
    due("all", told.winters(1, 10, 100, 0), 10);
    OneBoots wear = ruled("lane 4 5;brother 0 5;wet 3 9;want 0 3 6 7;sole 5", "walk 1");
    wearBoth(wear, 0);
    due("worn 3 without", wear.winters(1, 7, 0, 0), 7);
    due("worn 6 in FROST: a HOLE", wear.winters(1, 7, 100, 0), 0);
    due("CHILL twice", ruled(COLD, "walk 1").winters(1, 2, 100, 1), 0);
    due("FROZEN by it", on(COLD).winters(1, 2, 100, 1), 2);
    due("not without", on(COLD).winters(1, 2, 0, 1), 0);
  }

  @Says("WINTERS m times (1 to 10) n HOURS (1 to 72) from now on: ahead of each a DRAW")
  static void promise26_mTimes() {
    due("1 time", drawing(0).winters(1, 10, 50, 0), 7);
    due("2 times: the DRAWS go on", drawing(0).winters(2, 10, 50, 0), 10);
    due("3 times", drawing(0).winters(3, 10, 50, 0), 13);
    due("10 times", drawing(0).winters(10, 10, 100, 0), 100);
    due("0 times", drawing(0).winters(0, 10, 50, 0), NONE);
    due("11 times", drawing(0).winters(11, 10, 50, 0), NONE);
  }

  @Says("n HOURS (1 to 72) from now on")
  static void promise26_nHours() {
    OneBoots o = ruled("lane 2 0;brother 0 0;want 0 0 0 3;want 0 0 23 5", "walk 0");
    due("0", o.winters(1, 0, 50, 0), NONE);
    due("1", o.winters(1, 1, 50, 0), 3);
    due("23", o.winters(1, 23, 50, 0), 3);
    due("24", o.winters(1, 24, 50, 0), 8);
    due("25", o.winters(1, 25, 50, 0), 11);
    due("71", o.winters(1, 71, 50, 0), 19);
    due("72", o.winters(1, 72, 50, 0), 24);
    due("73", o.winters(1, 73, 50, 0), NONE);
    hours(o, 20);
    due("from now on", o.winters(2, 4, 50, 0), 10);
  }

  @Says("what is earned; how often somebody becomes FROZEN, all together (nothing stays; x as it was).")
  static void promise26_howOften() {
    OneBoots o = on(COLD);
    due("no FROST: 1 in HOUR 3", o.winters(1, 24, 0, 1), 1);
    due("FROST: both", o.winters(1, 24, 100, 1), 2);
    due("10 times both", o.winters(10, 24, 100, 1), 20);
    due("on three DAYS", o.winters(1, 72, 100, 1), 6);
    hours(o, 4);
    due("one is FROZEN already", o.brother(1, 4), 1);
    due("he does not become it", o.winters(1, 20, 100, 1), 0);
    due("but on the next DAY", o.winters(1, 24, 100, 1), 2);
    // FROZEN in HOUR 23, and the DAY is over at once
    OneBoots late = ruled("lane 2 0;brother 0 0;wet 1 9", "walk 1 if hour=22");
    due("behind HOUR 22", late.winters(1, 23, 100, 1), 0);
    due("behind HOUR 23", late.winters(1, 24, 100, 1), 1);
  }

  @Says("(nothing stays; x as it was)")
  static void promise26_nothingStays() {
    OneBoots o = on(COLD);
    o.seed(42);
    hours(o, 3);
    quiet("winters", o, () -> o.winters(10, 72, 100, 0), o.winters(10, 72, 100, 0));
    due("x", o.count(13), 42);
    due("FROST is none now", o.ahead(0, 96, 2), 20);
    due("undo", o.undo(), 2);
  }

  @Says("WINTERS what 0: earned, 1: how often. NONE without these, or a LANE.")
  static void promise26_withoutThese() {
    OneBoots o = on(COLD);
    int[] m = {0, -1, 11, FAR, DEEP};
    for (int i : m) due("m " + i, o.winters(i, 1, 1, 0), NONE);
    int[] n = {0, -1, 73, FAR, DEEP};
    for (int i : n) due("n " + i, o.winters(1, i, 1, 0), NONE);
    int[] p = {-1, 101, FAR, DEEP};
    for (int i : p) due("p " + i, o.winters(1, 1, i, 0), NONE);
    int[] what = {-1, 2, FAR, DEEP};
    for (int i : what) due("what " + i, o.winters(1, 1, 1, i), NONE);
    due("no LANE", new OneBoots().winters(1, 1, 1, 0), NONE);
    due("no LANE", new OneBoots().winters(1, 1, 1, 1), NONE);
    due("no BROTHERS", on("lane 2 0").winters(10, 72, 100, 0), 0);
    due("all at their least", o.winters(1, 1, 0, 0), 0);
  }

  // ---- 27: count ---------------------------------------------------------------------------

  @Says("What 0: PLACES, 1: the boots' SIZE, 2: BROTHERS, 3: FROSTS, 4: WANTS, 5: RULES, 6: the RULE IN FORCE (NONE), 7: HOUR, "
      + "8: DAY, 9: earned by all so far, 10: spent, 11: PRINTS, 12: ACTS that can be UNDONE, 13: x, 14: bytes of the TAPE, 15: SOLE.")
  static void promise27_eachWhat() {
    OneBoots o = on("lane 7 5;brother 0 1;brother 0 2;frost 1 1;frost 2 2;frost 4 4;want 0 0 0 9;want 1 0 0 8;want 0 0 5 1;want 1 0 6 1;sole 77");
    tellRule(o, "walk 0");
    tellRule(o, "walk 1");
    o.force(1);
    o.seed(13);
    o.print(0, 0, 0, true);
    o.print(1, 0, 0, true);
    o.wear(0, 0);
    hours(o, 24);
    hours(o, 1);
    o.cobble(0);
    o.feed(0, 0, 0, 0, 0);
    o.end(14);
    int[] want = {7, 5, 2, 3, 4, 2, 1, 1, 1, 34, 10, 2, 20, 13, 14, 77};
    for (int what = 0; what < 16; what++) due("what " + what, o.count(what), want[what]);
  }

  @Says("NONE for others (1, 15 without a LANE, too).")
  static void promise27_forOthers() {
    OneBoots o = on(COLD);
    int[] others = {-1, 16, FAR, DEEP};
    for (int what : others) due("what " + what, o.count(what), NONE);
    OneBoots none = new OneBoots();
    for (int what : others) due("no LANE, what " + what, none.count(what), NONE);
    due("SIZE without a LANE", none.count(1), NONE);
    due("SOLE without a LANE", none.count(15), NONE);
    int[] zero = {0, 2, 3, 4, 5, 7, 8, 9, 10, 11, 12, 13, 14};
    for (int what : zero) due("without a LANE, what " + what, none.count(what), 0);
    due("IN FORCE", none.count(6), NONE);
  }

  @Says("9: earned by all so far, 10: spent")
  static void promise27_earnedAndSpent() {
    OneBoots o = ruled("lane 3 5;brother 0 5;brother 0 5;want 0 0 0 25;want 1 0 0 1", "walk 1");
    wearBoth(o, 0);
    o.hour();
    o.cobble(0);
    o.cobble(1);
    due("earned, spent or not", o.count(9), 26);
    due("spent", o.count(10), 20);
    o.undo();
    due("undone", o.count(10), 10);
  }

  // ---- 28: image ---------------------------------------------------------------------------

  @Says("An IMAGE is made: DAY; NONE without it.")
  static void promise28_images0To3() {
    OneBoots o = on(COLD);
    hours(o, 25);
    for (int k = 0; k < 4; k++) quiet("image " + k, o, imageOf(o, k), 1);
    int[] none = {-1, 4, FAR, DEEP};
    for (int k : none) quiet("image " + k, o, imageOf(o, k), NONE);
    due("no act", o.count(12), 20);
  }

  private static java.util.function.IntSupplier imageOf(OneBoots o, int k) {
    return () -> o.image(k);
  }

  @Says("An IMAGE is made: DAY")
  static void promise28_madeAnew() {
    OneBoots o = on(COLD);
    due("DAY 0", o.image(3), 0);
    hours(o, 48);
    due("DAY 2", o.image(3), 2);
    due("in place of the first", o.back(3), 2);
    due("HOUR", o.count(8), 2);
  }

  @Says("IMAGES 0 to 3: all but the TAPE and the RULES, as it is (the RULE IN FORCE, too)")
  static void promise28_withoutALane() {
    OneBoots o = new OneBoots();
    due("DAY", o.image(0), 0);
    tellLane(o, COLD);
    hours(o, 30);
    due("back", o.back(0), 0);
    due("no LANE", o.count(1), NONE);
    due("no BROTHERS", o.count(2), 0);
    due("HOUR", o.count(7), 0);
    due("no hour", o.hour(), NONE);
    due("no boot", o.boot(0, 0), -2);
  }

  // ---- 29: back ----------------------------------------------------------------------------

  @Says("All is as in an IMAGE: DAY; NONE, and nothing happens, if it was never made, or without it.")
  static void promise29_neverMade() {
    OneBoots o = on(COLD);
    o.image(1);
    hours(o, 5);
    int[] none = {0, 2, 3, -1, 4, FAR, DEEP};
    for (int k : none) quiet("back " + k, o, () -> o.back(k), NONE);
    due("acts stay", o.undo(), 4);
    due("made", o.back(1), 0);
    OneBoots fresh = new OneBoots();
    quiet("no LANE", fresh, () -> fresh.back(0), NONE);
  }

  @Says("gone back to, it is as it was (these stay; nothing can be UNDONE then).")
  static void promise29_allIsAsItWas() {
    OneBoots o = ruled("lane 4 5;brother 1 5;brother 1 4;wet 2 9;want 0 1 0 30;frost 2 2;sole 3;boots 1", "walk 1");
    o.seed(11);
    wearBoth(o, 0);
    hours(o, 25);
    o.cobble(1);
    o.off(1);
    o.print(1, 1, 1, false);
    due("image", o.image(2), 1);
    int[] then = seen(o);
    then[12] = 0;
    o.undo();
    o.seed(99);
    o.force(NONE);
    o.print(NONE, 0, 0, false);
    o.print(2, 2, 2, true);
    hours(o, 30);
    tellLane(o, "lane 9 9;brother 8 8;wet 1 1;frost 0 0;frost 1 1;want 0 1 1 1;sole 50;boots 7");
    hours(o, 3);
    due("back", o.back(2), 1);
    sameAs("back", o, then);
    due("nothing can be undone", o.undo(), NONE);
    due("the PRINT is told", o.feet(0), 3);
    o.hour();
    due("back again", o.back(2), 1);
    sameAs("back again", o, then);
  }

  @Says("all but the TAPE and the RULES, as it is (the RULE IN FORCE, too)")
  static void promise29_printsAsTheyWere() {
    OneBoots o = on("lane 3 5;brother 0 5;brother 1 5");
    o.print(0, 0, 2, true);
    o.image(0);
    o.print(NONE, 0, 0, false);
    o.print(0, 1, 2, true);
    o.image(1);
    o.print(1, 1, 1, true);
    due("none", o.feet(0), 0);
    o.back(0);
    due("0", o.feet(1), 0);
    due("one PRINT", o.count(11), 1);
    o.back(1);
    due("1", o.feet(1), 1);
    due("one PRINT", o.count(11), 1);
    o.print(NONE, 0, 0, false);
    o.back(0);
    due("0 again", o.feet(1), 0);
  }

  @Says("(these stay; nothing can be UNDONE then).")
  static void promise29_tapeAndRulesStay() {
    OneBoots o = ruled("lane 3 5;brother 1 5", "walk 1");
    o.feed(1, 2, 3, 4, 5);
    o.image(0);
    o.end(0);
    tellRule(o, "walk 0-1");
    o.force(1);
    put(o, "lane 2 0;brother 1 0");
    due("back", o.back(0), 0);
    due("RULES stay", o.count(5), 2);
    due("the RULE IN FORCE as it was", o.count(6), 0);
    due("it leads him", o.ahead(0, 1, 0), 2);
    due("the TAPE stays", o.count(14), 20);
    due("its bytes, too", o.lane(), 1);
    due("PLACES", o.count(0), 2);
  }

  @Says("nothing can be UNDONE then")
  static void promise29_actsFromThenOn() {
    OneBoots o = on(COLD);
    hours(o, 30);
    o.image(0);
    o.back(0);
    due("none", o.count(12), 0);
    due("none can", o.undo(), NONE);
    hours(o, 2);
    due("two", o.count(12), 2);
    due("one", o.undo(), 1);
    due("none", o.undo(), 0);
    due("no more", o.undo(), NONE);
    due("as in the IMAGE", o.count(7) + 24 * o.count(8), 30);
  }

  @Says("IMAGES 0 to 3: all but the TAPE and the RULES, as it is")
  static void promise29_imagesStayApart() {
    OneBoots o = on(COLD);
    for (int k = 0; k < 4; k++) {
      o.image(k);
      hours(o, 24);
    }
    for (int k = 3; k >= 0; k--) due("back " + k, o.back(k), k);
    for (int k = 0; k < 4; k++) due("back " + k + " again", o.back(k), k);
    o.hour();
    due("what happens since is not in it", o.back(3), 3);
    due("HOUR", o.count(7), 0);
  }
}
