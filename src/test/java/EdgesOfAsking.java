/** The edges of promises 15 to 24: what would be. */
final class EdgesOfAsking extends Edge {
  // Bare feet are FROZEN at PLACE 2; who wears both is at PLACE 3 in HOUR 4, and is paid there.
  private static final String DEEP_SNOW = ";wet 1 9;wet 2 9;wet 3 9;frost 0 23;want 0 3 4 20;want 1 3 4 30;want 2 3 4 25";
  private static final String SNOW = "lane 4 5;brother 0 1;brother 0 2;brother 0 5" + DEEP_SNOW + ";sole 50";
  // The same with all the BROTHERS and PLACES there can be.
  private static final String SIX = "lane 10 5" + times(";brother 0 5", 6) + ";wet 1 9;wet 2 9;wet 3 9;frost 0 23;sole 50"
      + ";want 0 3 4 20;want 1 3 4 21;want 2 3 4 22;want 3 3 4 23;want 4 3 4 24;want 5 3 4 25";
  // All stay at home, all the time: 0 alone at PLACE 0, 1 and 2 (who is too big) at PLACE 3.
  private static final String HOMES = "lane 4 5;brother 0 5;brother 3 4;brother 3 6;boots 3";

  // ---- 15: ahead ---------------------------------------------------------------------------

  @Says({"AHEAD n HOURS (0 to 96): where a BROTHER is, CHILL, what he earned so far.", "AHEAD what 0: PLACE, 1: CHILL, 2: earned."})
  static void promise15_from0To96Hours() {
    OneBoots o = on("lane 4 5;brother 0 5;wet 1 2;want 0 1 1 7");
    o.hour();
    due("now: PLACE", o.ahead(0, 0, 0), 1);
    due("now: CHILL", o.ahead(0, 0, 1), 4);
    due("now: earned", o.ahead(0, 0, 2), 0);
    due("in 1", o.ahead(0, 1, 2), 7);
    due("CHILL in 1", o.ahead(0, 1, 1), 8);
    due("home in 2", o.ahead(0, 2, 0), 0);
    due("CHILL in 2", o.ahead(0, 2, 1), 4);
    due("in 95", o.ahead(0, 95, 0), 0);
    due("in 96: HOUR 1 of DAY 4", o.ahead(0, 96, 0), 1);
    due("four times paid", o.ahead(0, 96, 2), 28);
    due("97", o.ahead(0, 97, 0), NONE);
    due("-1", o.ahead(0, -1, 0), NONE);
  }

  @Says("where a BROTHER is, CHILL, what he earned so far.")
  static void promise15_ofEachBrother() {
    // BROTHER b walks b PLACES, 2 * b times the HOURS there; he is paid there in HOUR 6
    OneBoots o = ruled("lane 6 5" + times(";brother 0 5", 6) + ";wet 1 1;wet 2 1;wet 3 1;wet 4 1;wet 5 1"
        + ";want 1 1 6 1;want 2 2 6 2;want 3 3 6 3;want 4 4 6 4;want 5 5 6 5", "walk 1 if place<brother");
    for (int b = 0; b < 6; b++) {
      due("PLACE of " + b, o.ahead(b, 7, 0), b);
      due("CHILL of " + b, o.ahead(b, 7, 1), b == 0 ? 0 : 14);
      due("earned by " + b, o.ahead(b, 7, 2), b);
      due("not yet by " + b, o.ahead(b, 6, 2), 0);
    }
  }

  @Says("what he earned so far.")
  static void promise15_whatHeEarnedSoFar() {
    OneBoots o = on("lane 4 5;brother 0 5;brother 0 5;want 0 0 0 7;want 1 0 0 9");
    hours(o, 30);
    due("earned till now", o.brother(0, 6), 14);
    due("and by then", o.ahead(0, 24, 2), 21);
    due("his own alone", o.ahead(1, 24, 2), 27);
  }

  @Says("NONE without these.")
  static void promise15_withoutThese() {
    OneBoots o = on(HOMES);
    int[] far = {-1, 3, 6, FAR, DEEP};
    for (int b : far) due("brother " + b, o.ahead(b, 1, 0), NONE);
    int[] n = {-1, 97, FAR, DEEP};
    for (int i : n) due("n " + i, o.ahead(0, i, 0), NONE);
    int[] what = {-1, 3, FAR, DEEP};
    for (int i : what) due("what " + i, o.ahead(0, 1, i), NONE);
    due("no LANE", new OneBoots().ahead(0, 0, 0), NONE);
    due("no BROTHERS", on("lane 2 0").ahead(0, 0, 0), NONE);
  }

  @Says("(By what is asked nothing changes;")
  static void promise15_nothingChanges() {
    OneBoots o = ruled(SNOW, "walk 1");
    wearBoth(o, 2);
    hours(o, 3);
    quiet("ahead", o, () -> o.ahead(0, 96, 0), 2);
    due("undo goes where it did", o.undo(), 4);
    due("HOUR 2", o.count(7), 2);
  }

  @Says("HOURS go on by the RULE IN FORCE.")
  static void promise15_byTheRuleInForce() {
    OneBoots o = on("lane 4 5;brother 1 5");
    due("without", o.ahead(0, 2, 0), 1);
    force(o, "walk 1");
    due("ahead", o.ahead(0, 2, 0), 3);
    force(o, "walk 0-1");
    due("back", o.ahead(0, 2, 0), 0);
  }

  // ---- 16: lend ----------------------------------------------------------------------------

  @Says("What n HOURS earn: PAY of all in these.)")
  static void promise16_payOfAllInTheseHours() {
    OneBoots o = ruled("lane 2 0;brother 0 0;brother 0 0;want 0 0 0 3;want 1 0 1 4;want 0 0 2 5;want 1 0 2 6", "walk 0");
    due("HOUR 0", o.lend(1, 1), 3);
    due("HOURS 0 and 1", o.lend(2, 1), 7);
    due("HOURS 0 to 2", o.lend(3, 1), 18);
    o.hour();
    due("what was earned before is not among it", o.lend(1, 1), 4);
    due("HOURS 1 and 2", o.lend(2, 1), 15);
  }

  @Says("LEND for n HOURS (1 to 24)")
  static void promise16_from1To24Hours() {
    OneBoots o = on(SNOW);
    due("0", o.lend(0, 1), -2);
    due("1", o.lend(1, 1), 0);
    due("4: HOUR 4 is not among them", o.lend(4, 1), 0);
    due("5", o.lend(5, 1), 30);
    due("24", o.lend(24, 1), 30);
    due("25", o.lend(25, 1), -2);
    OneBoots day = ruled("lane 2 0;brother 0 0;want 0 0 0 3", "walk 0");
    day.hour();
    due("23: not HOUR 0 of the next DAY", day.lend(23, 1), 0);
    due("24: that, too", day.lend(24, 1), 3);
  }

  @Says({"by whom n HOURS earn most; of several nobody, then the least; how much.", "LEND what 0: who (NONE: nobody), 1: how much."})
  static void promise16_byWhomTheyEarnMost() {
    OneBoots o = on(SNOW);
    due("who", o.lend(24, 0), 1);
    due("how much", o.lend(24, 1), 30);
    due("it is what all earn", on(SNOW + ";brother 0 0;want 3 0 0 6").lend(24, 1), 36);
  }

  @Says("of several nobody, then the least")
  static void promise16_ofSeveralNobodyThenTheLeast() {
    due("all earn nothing: nobody", on(SNOW).lend(4, 0), NONE);
    due("boots are no use: nobody", on("lane 3 5;brother 0 5;want 0 1 1 9").lend(24, 0), NONE);
    OneBoots two = on("lane 4 5;brother 0 9;brother 0 2;brother 0 1;wet 1 9;wet 2 9;wet 3 9;frost 0 23;want 2 3 4 20;want 1 3 4 20");
    due("1 and 2 alike: the least", two.lend(24, 0), 1);
    OneBoots lost = ruled("lane 2 5;brother 0 5;want 0 0 1 9", "walk boots");
    due("by nobody they earn more", lost.lend(2, 0), NONE);
    due("how much", lost.lend(2, 1), 9);
  }

  @Says("if one (whose SIZE fits) wore both from now on, wherever they are")
  static void promise16_whoseSizeFits() {
    String big = "lane 4 1;brother 0 1;brother 0 2;brother 0 5" + DEEP_SNOW;
    due("only 0 fits", on(big).lend(24, 0), 0);
    due("20", on(big).lend(24, 1), 20);
    due("just SIZE 2", on(big.replace("lane 4 1", "lane 4 2")).lend(24, 0), 1);
    due("nobody fits", on(big.replace("lane 4 1", "lane 4 0")).lend(24, 0), NONE);
    due("nobody fits", on(big.replace("lane 4 1", "lane 4 0")).lend(24, 1), 0);
    due("no BROTHERS", on("lane 2 0").lend(24, 0), NONE);
  }

  @Says("if one (whose SIZE fits) wore both from now on, wherever they are")
  static void promise16_whereverTheyAre() {
    OneBoots far = on(SNOW + ";boots 3");
    due("they lie at PLACE 3", far.lend(24, 0), 1);
    OneBoots worn = on(SNOW);
    worn.wear(0, 0);
    worn.wear(1, 2);
    due("two others wear them", worn.lend(24, 0), 1);
    due("who then wears none: 30", worn.lend(24, 1), 30);
    // from now on: 1 is at PLACE 1 with CHILL 36 already, and in a boot that is whole
    OneBoots later = on(SNOW);
    later.hour();
    due("in HOUR 1", later.lend(4, 1), 30);
    OneBoots frozen = on(SNOW);
    hours(frozen, 2);
    due("all are FROZEN", frozen.lend(22, 0), NONE);
    due("till the DAY is over", frozen.lend(24, 1), 0);
  }

  @Says("if one (whose SIZE fits) wore both from now on")
  static void promise16_asWornAsTheyAre() {
    OneBoots o = on(SNOW.replace("sole 50", "sole 1"));
    due("a HOLE with the first step", o.lend(24, 0), NONE);
    OneBoots two = on(SNOW.replace("sole 50", "sole 7"));
    due("7 are worn by the third step, less 1", two.lend(24, 0), 1);
    OneBoots six = on(SNOW.replace("sole 50", "sole 6"));
    // HOLES at PLACE 3: 36 behind HOUR 2, 72 behind HOUR 3
    due("6 by the third step", six.lend(24, 0), NONE);
  }

  @Says("or nobody did (they lie at PLACE 0; NONE)")
  static void promise16_byNobodyTheyLieAtPlace0() {
    OneBoots o = ruled("lane 3 5;brother 0 9;want 0 1 1 8;boots 2", "walk lying-1");
    due("two lie with him", o.lend(2, 1), 8);
    due("now they do not", o.ahead(0, 2, 2), 0);
    OneBoots worn = ruled("lane 3 5;brother 0 9;brother 0 1;want 0 1 1 8", "walk lying-1");
    wearBoth(worn, 1);
    due("nobody wears them", worn.lend(2, 0), NONE);
    due("8", worn.lend(2, 1), 8);
  }

  @Says("by whom n HOURS earn most")
  static void promise16_sixBrothersAndTenPlaces() {
    OneBoots o = on(SIX);
    due("lend", o.lend(24, 0), 5);
    due("lend", o.lend(24, 1), 25);
    due("worth of 5", o.worth(5, 24), 1);
    due("worth of 4", o.worth(4, 24), 0);
    due("bids", o.bids(24), 24);
    due("second", o.second(9, 24, 1), 5);
    due("second", o.second(9, 24, 0), 25);
    due("feet", o.feet(0), 7);
    due("look", o.look(0, 0), 0);
    due("alike", o.look(0, 1), 6);
    due("look in HOUR 3", o.look(3, 0), 3);
    due("alike", o.look(3, 1), 6);
    o.print(3, 3, 2, true);
    due("feet by a PRINT", o.feet(0), 6);
    due("the least", o.feet(1), 0);
    due("relay", o.relay(4, 0), 0);
    force(o, "walk 1 if boots=2 and brother=5;walk 0");
    due("only 5 is left then", o.feet(1), 5);
    OneBoots r = ruled("lane 10 5" + times(";brother 0 5", 6) + ";want 5 1 1 9", "walk boots*brother/10");
    due("relay by 5", r.relay(2, 0), 9);
    due("he", r.relay(2, 1), 5);
    due("then nobody", r.relay(2, 2), NONE);
  }

  @Says("-2 without these, or a LANE.")
  static void promise16_withoutThese() {
    OneBoots o = on(SNOW);
    int[] n = {0, -1, 25, FAR, DEEP};
    for (int i : n) due("n " + i, o.lend(i, 0), -2);
    int[] what = {-1, 2, FAR, DEEP};
    for (int i : what) due("what " + i, o.lend(1, i), -2);
    due("no LANE", new OneBoots().lend(1, 0), -2);
    due("no LANE", new OneBoots().lend(1, 1), -2);
  }

  @Says("(By what is asked nothing changes;")
  static void promise16_nothingChanges() {
    OneBoots o = ruled(SNOW, "walk 1");
    o.wear(0, 2);
    hours(o, 3);
    quiet("lend", o, () -> o.lend(24, 1), 25);
    quiet("worth", o, () -> o.worth(1, 24), 0);
    quiet("bids", o, () -> o.bids(24), 0);
  }

  // ---- 17: worth ---------------------------------------------------------------------------

  @Says("WORTH of a BROTHER for n HOURS: by how much LEND is more with him than if he could not wear them.")
  static void promise17_byHowMuchItIsMore() {
    OneBoots o = on(SNOW);
    due("the best: 30 less 25", o.worth(1, 24), 5);
    due("the second", o.worth(2, 24), 0);
    due("the third", o.worth(0, 24), 0);
    due("too early", o.worth(1, 4), 0);
    due("just in time", o.worth(1, 5), 5);
    OneBoots single = on("lane 4 1;brother 0 1;brother 0 2;brother 0 5" + DEEP_SNOW);
    due("the only one who fits: less nobody", single.worth(0, 24), 20);
    due("one who does not fit", single.worth(1, 24), 0);
    OneBoots alike = on(SNOW.replace("want 2 3 4 25", "want 2 3 4 30"));
    due("two alike", alike.worth(1, 24), 0);
    due("two alike", alike.worth(2, 24), 0);
    OneBoots lost = ruled("lane 2 5;brother 0 5;want 0 0 1 9", "walk boots");
    due("nobody is better", lost.worth(0, 2), 0);
  }

  @Says("WORTH; NONE without these.")
  static void promise17_withoutThese() {
    OneBoots o = on(SNOW);
    int[] far = {-1, 3, FAR, DEEP};
    for (int b : far) due("brother " + b, o.worth(b, 24), NONE);
    int[] n = {0, -1, 25, FAR, DEEP};
    for (int i : n) due("n " + i, o.worth(1, i), NONE);
    due("n 1", o.worth(1, 1), 0);
    due("n 24", o.worth(1, 24), 5);
    due("no LANE", new OneBoots().worth(0, 1), NONE);
    due("no BROTHERS", on("lane 2 0").worth(0, 1), NONE);
  }

  // ---- 18: bids ----------------------------------------------------------------------------

  @Says("each who fits bids by how much more than by nobody n HOURS earn if LENT to him: the second greatest of these bids")
  static void promise18_theSecondGreatest() {
    due("of 20, 30, 25", on(SNOW).bids(24), 25);
    due("of 30, 20, 25", on(SNOW.replace("want 0 3 4 20;want 1 3 4 30", "want 0 3 4 30;want 1 3 4 20")).bids(24), 25);
    due("of 20, 30, 30", on(SNOW.replace("want 2 3 4 25", "want 2 3 4 30")).bids(24), 30);
    due("too early", on(SNOW).bids(4), 0);
    due("just in time", on(SNOW).bids(5), 25);
    due("more than by nobody", on(SNOW + ";brother 0 0;want 3 0 0 50").bids(24), 25);
  }

  @Says("(0 if there are not two, or if it is below).")
  static void promise18_notTwo() {
    String big = "lane 4 1;brother 0 1;brother 0 2;brother 0 5" + DEEP_SNOW;
    due("one fits", on(big).bids(24), 0);
    due("two fit", on(big.replace("lane 4 1", "lane 4 2")).bids(24), 20);
    due("none fits", on(big.replace("lane 4 1", "lane 4 0")).bids(24), 0);
    due("no BROTHERS", on("lane 2 0").bids(24), 0);
  }

  @Says("(0 if there are not two, or if it is below).")
  static void promise18_below0() {
    String lane = "lane 2 5;brother 0 5;brother 0 5;brother 0 5;want 0 1 1 9;want 1 0 1 5;want 2 0 1 4";
    OneBoots o = ruled(lane, "walk boots");
    due("9, -5, -4", o.bids(2), 0);
    due("lent to 0 they earn 18", o.lend(2, 1), 18);
    due("all below", ruled(lane.replace("0 1 1 9", "0 0 1 9"), "walk boots").bids(2), 0);
    due("9, 3, -4", ruled(lane.replace("1 0 1 5", "1 1 1 3"), "walk boots").bids(2), 3);
  }

  @Says("by how much more than by nobody n HOURS earn")
  static void promise18_byNobodyTheyLieAtPlace0() {
    // by nobody 0 walks, since two lie with him: 8, and so the others bid 0 and not 3
    String lane = "lane 3 5;brother 0 9;brother 1 1;brother 1 1;want 0 1 1 8;want 1 1 1 3;want 2 1 1 3;boots 1";
    OneBoots o = ruled(lane, "walk lying-1 if brother=0");
    due("by nobody 14", o.lend(2, 1), 14);
    due("by 1 or 2 only 6", o.bids(2), 0);
    OneBoots less = ruled(lane, "walk 1-lying if brother=0");
    due("by nobody 6, else 14: both bid 8", less.bids(2), 8);
  }

  @Says("BIDS; NONE without these, or a LANE.")
  static void promise18_withoutThese() {
    OneBoots o = on(SNOW);
    int[] n = {0, -1, 25, FAR, DEEP};
    for (int i : n) due("n " + i, o.bids(i), NONE);
    due("n 1", o.bids(1), 0);
    due("n 24", o.bids(24), 25);
    due("no LANE", new OneBoots().bids(1), NONE);
  }

  // ---- 19: relay ---------------------------------------------------------------------------

  @Says("RELAY for n HOURS (1 to 4): ahead of each HOUR one is named, or nobody (NONE)")
  static void promise19_from1To4Hours() {
    OneBoots o = ruled("lane 5 5;brother 0 5;want 0 0 0 1;want 0 1 1 2;want 0 2 2 3;want 0 3 3 4;want 0 4 4 5", "walk 1");
    int[] due = {-3, 1, 3, 6, 10, -3};
    for (int n = 0; n <= 5; n++) due("n " + n, o.relay(n, 0), due[n]);
  }

  @Says({"if he is named, fits, and a boot lies at his PLACE or is worn there, he wears it", "(each of the two by itself)"})
  static void promise19_eachBootByItself() {
    OneBoots o = ruled("lane 4 5;brother 0 5;brother 0 5;want 0 1 2 7", "walk brother");
    o.wear(1, 1);
    o.hour();
    force(o, "walk 1-brother if boots=1");
    due("with just one boot he walks", o.relay(2, 0), 7);
    due("he is named", o.relay(2, 1), 0);
    due("then nobody", o.relay(2, 2), NONE);
    force(o, "walk 1-brother if boots=2");
    due("both he can't have", o.relay(2, 0), 0);
    due("nobody", o.relay(2, 1), NONE);
  }

  @Says("and a boot lies at his PLACE or is worn there, he wears it")
  static void promise19_aBootThatIsWornThere() {
    OneBoots o = ruled("lane 3 5;brother 0 5;brother 0 5;want 1 1 1 8", "walk 1 if brother=1 and boots=2");
    wearBoth(o, 0);
    due("he takes them", o.relay(2, 0), 8);
    due("who", o.relay(2, 1), 1);
    OneBoots apart = ruled("lane 3 5;brother 0 5;brother 1 5;want 1 2 1 8", "walk 1 if brother=1 and boots=2");
    wearBoth(apart, 0);
    due("worn elsewhere", apart.relay(2, 0), 0);
    OneBoots lies = ruled("lane 3 5;brother 0 5;want 0 1 1 8;boots 1", "walk boots");
    due("lies elsewhere", lies.relay(4, 0), 0);
  }

  @Says("if he is named, fits")
  static void promise19_whoFits() {
    String lane = "lane 3 4;brother 0 5;want 0 1 1 8";
    OneBoots big = ruled(lane, "walk boots");
    due("SIZE 5 by 4", big.relay(2, 0), 0);
    due("nobody", big.relay(2, 1), NONE);
    OneBoots fits = ruled(lane.replace("lane 3 4", "lane 3 5"), "walk boots");
    due("SIZE 5 by 5", fits.relay(2, 0), 8);
    due("he", fits.relay(2, 1), 0);
  }

  @Says("rows of names by which n HOURS earn most, of several with the least CHILL of all together at the end")
  static void promise19_theLeastChillOfAllTogether() {
    // both walk through the wet; 1 through more of it
    String lane = "lane 4 5;brother 1 5;brother 2 5;wet 2 1;wet 3 9;boots 1";
    OneBoots o = ruled(lane, "walk 1");
    due("0 can wear them", o.relay(1, 1), 0);
    OneBoots meet = ruled("lane 4 5;brother 1 5;brother 1 5;wet 0 1;wet 2 9;boots 1", "walk 2*brother-1");
    due("1 goes where it is wetter", meet.relay(1, 1), 1);
    OneBoots first = ruled("lane 4 5;brother 1 5;brother 1 5;wet 2 9;want 0 2 1 1;boots 1", "walk boots+brother");
    due("what they earn comes first: 1 by 0", first.relay(2, 0), 1);
    due("though 1 gets wet", first.relay(2, 1), 0);
  }

  @Says("with the least CHILL of all together at the end")
  static void promise19_chillAtTheEndOfTheDayIs0() {
    OneBoots o = ruled("lane 3 5;brother 0 5;wet 1 9", "walk 0");
    hours(o, 22);
    force(o, "walk 1");
    due("HOUR 22 alone: with dry feet", o.relay(1, 1), 0);
    due("the DAY is over then: nobody", o.relay(2, 1), NONE);
    due("and nobody", o.relay(2, 2), NONE);
    due("an HOUR of the next DAY: nobody", o.relay(3, 1), NONE);
    due("nobody", o.relay(3, 2), NONE);
    due("then he", o.relay(3, 3), 0);
  }

  @Says("HOURS go on by the RULE IN FORCE.")
  static void promise19_hoursAsTheyAre() {
    // 18 an HOUR: with FROST he would be FROZEN in HOUR 2, and not paid in HOUR 3
    OneBoots o = ruled("lane 4 5;brother 0 9;wet 1 9;wet 2 9;wet 3 9;want 0 3 3 7;want 0 2 2 5", "walk 1");
    due("no FROST is told", o.relay(4, 0), 12);
    OneBoots frost = ruled("lane 4 5;brother 0 9;wet 1 9;wet 2 9;wet 3 9;want 0 3 3 7;want 0 2 2 5;frost 0 1", "walk 1");
    due("FROST is told", frost.relay(4, 0), 0);
  }

  @Says("of several the first (nobody ahead of 0): how much, the row.")
  static void promise19_ofSeveralTheFirst() {
    OneBoots two = ruled("lane 3 5;brother 0 5;brother 0 5;wet 1 9", "walk 1");
    due("0 or 1 alike: 0", two.relay(1, 1), 0);
    OneBoots late = ruled("lane 3 5;brother 0 5;want 0 1 2 9", "walk boots if hour=1");
    due("it is enough to put them on in HOUR 1", late.relay(3, 0), 9);
    due("nobody first", late.relay(3, 1), NONE);
    due("then 0", late.relay(3, 2), 0);
    due("then nobody", late.relay(3, 3), NONE);
    OneBoots none = on("lane 3 5;brother 0 5");
    for (int what = 1; what <= 4; what++) due("nothing to win: nobody", none.relay(4, what), NONE);
    OneBoots his = ruled("lane 3 5;brother 0 5;wet 1 9", "walk 1");
    wearBoth(his, 0);
    due("he wears them already: nobody", his.relay(1, 1), NONE);
  }

  @Says("RELAY what 0: how much, 1 to 4: who is named ahead of that HOUR (NONE: nobody; -2: so many there are not). "
      + "-3 without these, or a LANE.")
  static void promise19_soManyThereAreNot() {
    OneBoots o = on(SNOW);
    for (int n = 1; n <= 4; n++) {
      for (int what = 1; what <= 4; what++) {
        if (what > n) due("what " + what + " of " + n, o.relay(n, what), -2);
      }
      due("the last of " + n + " is there", o.relay(n, n) >= NONE ? 1 : 0, 1);
    }
  }

  @Says("-3 without these, or a LANE.")
  static void promise19_withoutThese() {
    OneBoots o = on(SNOW);
    int[] n = {0, -1, 5, FAR, DEEP};
    for (int i : n) {
      due("n " + i, o.relay(i, 0), -3);
      due("n " + i, o.relay(i, 4), -3);
    }
    int[] what = {-1, 5, FAR, DEEP};
    for (int i : what) {
      due("what " + i, o.relay(1, i), -3);
      due("what " + i, o.relay(4, i), -3);
    }
    for (int w = 0; w <= 4; w++) due("no LANE", new OneBoots().relay(1, w), -3);
    due("no BROTHERS", on("lane 2 0").relay(4, 0), 0);
    due("no BROTHERS", on("lane 2 0").relay(4, 4), NONE);
  }

  @Says("(By what is asked nothing changes;")
  static void promise19_nothingChanges() {
    OneBoots o = ruled(SNOW, "walk 1");
    o.wear(0, 2);
    hours(o, 1);
    quiet("relay", o, () -> o.relay(4, 0), 0);
    due("undo", o.undo(), 1);
    due("HOUR 0", o.count(7), 0);
  }

  // ---- 20: print ---------------------------------------------------------------------------

  @Says("PRINTS 0 to 9, told: at the begin of the n-th HOUR of all (0 to 47; 0 the very first)")
  static void promise20_from0To47() {
    OneBoots o = on(HOMES);
    due("0", o.print(0, 0, 0, true), 1);
    due("47", o.print(47, 0, 0, true), 2);
    quiet("48", o, () -> o.print(48, 0, 0, true), -2);
    quiet("-2", o, () -> o.print(-2, 0, 0, true), -2);
    quiet("far", o, () -> o.print(FAR, 0, 0, true), -2);
    quiet("deep", o, () -> o.print(DEEP, 0, 0, true), -2);
  }

  @Says("somebody at a PLACE wore just so many boots (0 to 2), or nobody there did.")
  static void promise20_placesAndBoots() {
    OneBoots o = on(HOMES);
    due("PLACE 3", o.print(0, 3, 0, true), 1);
    int[] place = {-1, 4, 10, FAR, DEEP};
    for (int p : place) quiet("PLACE " + p, o, () -> o.print(0, p, 0, true), -2);
    due("2 boots", o.print(0, 0, 2, false), 2);
    int[] boots = {-1, 3, FAR, DEEP};
    for (int b : boots) quiet("boots " + b, o, () -> o.print(0, 0, b, false), -2);
  }

  @Says("how many; -2, and nothing happens, without these, or if there are 10.")
  static void promise20_tenPrints() {
    OneBoots o = on(HOMES);
    for (int i = 1; i <= 10; i++) due("print " + i, o.print(0, 0, 2, false), i);
    due("ten", o.count(11), 10);
    quiet("an 11th", o, () -> o.print(0, 0, 2, true), -2);
    due("it was not told", o.feet(0), 2);
    due("n NONE", o.print(NONE, 0, 0, true), 0);
    due("one again", o.print(0, 0, 2, true), 1);
    due("alone", o.feet(0), 1);
  }

  @Says("A PRINT (n NONE: there are none then, 0)")
  static void promise20_noneThen() {
    OneBoots o = on(HOMES);
    due("none of none", o.print(NONE, 0, 0, true), 0);
    o.print(0, 0, 2, true);
    due("all else is free", o.print(NONE, 99, -9, false), 0);
    due("none", o.count(11), 0);
    due("FEET", o.feet(0), 3);
    due("no act", o.count(12), 0);
  }

  @Says("-2, and nothing happens, without these, or if there are 10.")
  static void promise20_withoutALane() {
    OneBoots o = new OneBoots();
    quiet("no LANE, no PLACE", o, () -> o.print(0, 0, 0, true), -2);
    quiet("none then", o, () -> o.print(NONE, 0, 0, true), 0);
  }

  // ---- 21: feet ----------------------------------------------------------------------------

  /** How many FEET there are by one PRINT. */
  private static int feet(OneBoots o, int n, int place, int boots, boolean is) {
    o.print(NONE, 0, 0, false);
    o.print(n, place, boots, is);
    return o.feet(0);
  }

  @Says("somebody at a PLACE wore just so many boots (0 to 2), or nobody there did.")
  static void promise21_justSoManyBoots() {
    OneBoots o = on(HOMES);
    due("2 at PLACE 0: he", feet(o, 0, 0, 2, true), 1);
    due("who", o.feet(1), 0);
    due("not 2 at PLACE 0", feet(o, 0, 0, 2, false), 2);
    due("0 at PLACE 0", feet(o, 0, 0, 0, true), 2);
    due("not 0 at PLACE 0", feet(o, 0, 0, 0, false), 1);
    due("1 at PLACE 0", feet(o, 0, 0, 1, true), 0);
    due("not 1 at PLACE 0", feet(o, 0, 0, 1, false), 3);
    due("2 at PLACE 3", feet(o, 0, 3, 2, true), 1);
    due("who", o.feet(1), 1);
    due("0 at PLACE 3: another one is there always", feet(o, 0, 3, 0, true), 3);
    due("0 where nobody is", feet(o, 0, 1, 0, true), 0);
    due("not 0 where nobody is", feet(o, 0, 1, 0, false), 3);
  }

  @Says("at the begin of the n-th HOUR of all (0 to 47; 0 the very first)")
  static void promise21_atTheBeginOfTheHour() {
    OneBoots o = ruled("lane 4 0;brother 0 1", "walk 1");
    int[][] at = {{0, 0}, {1, 1}, {2, 2}, {3, 3}, {23, 3}, {24, 0}, {25, 1}, {47, 3}};
    for (int[] a : at) {
      for (int place = 0; place < 4; place++) {
        due("HOUR " + a[0] + " PLACE " + place, feet(o, a[0], place, 0, true), place == a[1] ? 1 : 0);
      }
    }
  }

  @Says("FEET: a BROTHER who fits, or nobody, wore both from the very first HOUR on")
  static void promise21_whoFits() {
    due("2 of 3 fit, and nobody", on(HOMES).feet(0), 3);
    due("SIZE 6 by 6", on(HOMES.replace("lane 4 5", "lane 4 6")).feet(0), 4);
    due("only SIZE 4", on(HOMES.replace("lane 4 5", "lane 4 4")).feet(0), 2);
    due("none fits", on(HOMES.replace("lane 4 5", "lane 4 3")).feet(0), 1);
    due("no BROTHERS", on("lane 2 0").feet(0), 1);
    due("six", on("lane 2 0" + times(";brother 0 0", 6)).feet(0), 7);
  }

  @Says("(nobody: they lie at PLACE 0), all as the text told it: those by which all PRINTS are so")
  static void promise21_asTheTextToldIt() {
    OneBoots lying = ruled("lane 4 0;brother 0 1;boots 3", "walk lying-1");
    due("they lie at PLACE 0, not where the text told", feet(lying, 1, 1, 0, true), 1);
    OneBoots o = on(SNOW);
    wearBoth(o, 0);
    hours(o, 27);
    o.off(0);
    due("who is at PLACE 3 in HOUR 3 wore them", feet(o, 3, 3, 2, true), 3);
    due("the least", o.feet(1), 0);
    due("nobody wore them: nobody was there", feet(o, 3, 3, 2, false), 1);
    due("nobody", o.feet(1), NONE);
    // by what was walked since they would have HOLES with the first step
    OneBoots sole = on(SNOW.replace("sole 50", "sole 7"));
    wearBoth(sole, 1);
    hours(sole, 4);
    due("worn by now", sole.boot(0, 2), 6);
    due("whole at first", feet(sole, 4, 3, 2, true), 3);
  }

  @Says("those by which all PRINTS are so: how many; the least (nobody ahead of 0, told as NONE).")
  static void promise21_allPrints() {
    OneBoots o = on(HOMES);
    due("without PRINTS all: nobody", o.feet(1), NONE);
    o.print(5, 0, 2, false);
    due("nobody, or 1", o.feet(0), 2);
    due("nobody ahead of 1", o.feet(1), NONE);
    o.print(0, 3, 2, true);
    due("1", o.feet(0), 1);
    due("who", o.feet(1), 1);
    o.print(47, 0, 2, true);
    due("not all of them", o.feet(0), 0);
    due("none", o.feet(1), -2);
    OneBoots two = on("lane 2 5;brother 0 5;brother 0 5");
    two.print(0, 0, 2, true);
    due("0 or 1", two.feet(0), 2);
    due("the least", two.feet(1), 0);
  }

  @Says("those by which all PRINTS are so")
  static void promise21_printsOfSeveralHours() {
    OneBoots o = ruled("lane 10 0;brother 0 1", "walk 1");
    for (int n = 9; n >= 1; n--) {
      o.print(n, n, 0, true);
      due("PRINT of HOUR " + n, o.feet(0), 1);
    }
    o.print(5, 4, 0, true);
    due("one of ten is not so", o.feet(0), 0);
    for (int wrong = 0; wrong < 10; wrong++) {
      o.print(NONE, 0, 0, false);
      for (int i = 0; i < 10; i++) o.print(3 + i % 4, 3 + i % 4, 0, i != wrong);
      due("the PRINT " + wrong + " is not so", o.feet(0), 0);
    }
  }

  @Says("FEET: a BROTHER who fits, or nobody, wore both from the very first HOUR on")
  static void promise21_frostAsItIsTold() {
    // 18 an HOUR: without FROST he is at PLACE 3 in HOUR 3, and FROZEN there
    String lane = "lane 5 0;brother 0 1;wet 1 9;wet 2 9;wet 3 9;wet 4 9";
    OneBoots o = ruled(lane, "walk 1");
    due("HOUR 4", feet(o, 4, 4, 0, true), 1);
    due("in FROST he stays at PLACE 2", feet(ruled(lane + ";frost 0 23", "walk 1"), 4, 2, 0, true), 1);
    due("LOOK does as well", ruled(lane, "walk 1").look(4, 1), 1);
  }

  @Says("HOURS go on by the RULE IN FORCE.")
  static void promise21_byTheRuleInForce() {
    OneBoots o = on("lane 4 5;brother 0 5");
    tellRule(o, "walk boots");
    o.print(1, 1, 2, true);
    due("without he stays at home", o.feet(0), 0);
    o.force(0);
    due("by the RULE he walks", o.feet(0), 1);
  }

  @Says("FEET what 0: how many, 1: the least (NONE: nobody; -2: there is none). -3 for others, or without a LANE.")
  static void promise21_forOthers() {
    OneBoots o = on(HOMES);
    int[] what = {-1, 2, -3, FAR, DEEP};
    for (int i : what) due("what " + i, o.feet(i), -3);
    due("no LANE", new OneBoots().feet(0), -3);
    due("no LANE", new OneBoots().feet(1), -3);
    o.print(0, 1, 0, true);
    due("none", o.feet(0), 0);
    due("none", o.feet(1), -2);
    quiet("nothing changes", o, () -> o.feet(0), 0);
  }

  // ---- 22: look ----------------------------------------------------------------------------

  @Says({"the PLACE by how many boots at most somebody there wears", "these part best: the most alike are fewest, of several the least; how many."})
  static void promise22_whereTheyPartBest() {
    OneBoots o = on(HOMES);
    due("PLACE 0 parts as well as 3", o.look(0, 0), 0);
    due("two alike", o.look(0, 1), 2);
    o.print(0, 0, 2, false);
    due("nobody or 1: PLACE 3", o.look(0, 0), 3);
    due("one alike", o.look(0, 1), 1);
    o.print(0, 3, 2, true);
    due("one is left: the least PLACE", o.look(0, 0), 0);
    due("one alike", o.look(0, 1), 1);
    OneBoots home = on("lane 4 5;brother 2 5;brother 2 5;brother 2 5");
    due("at most: 2 boots whoever wears them", home.look(0, 0), 2);
    due("three alike", home.look(0, 1), 3);
  }

  @Says("(nobody there counts by itself)")
  static void promise22_nobodyThereCountsByItself() {
    OneBoots o = ruled("lane 3 5;brother 0 5", "walk boots");
    due("with bare feet, or gone", o.look(1, 0), 0);
    due("parted", o.look(1, 1), 1);
    due("in HOUR 0 by his boots", o.look(0, 0), 0);
    OneBoots none = on("lane 3 0;brother 2 9");
    due("one alone: the least PLACE", none.look(5, 0), 0);
    due("alike", none.look(5, 1), 1);
  }

  @Says("LOOK at the n-th HOUR (0 to 47) what 0: the PLACE, 1: how many; -2: there are no FEET.")
  static void promise22_from0To47() {
    // who wears them walks from PLACE 2 to 0, each DAY; else he stays at PLACE 2
    OneBoots o = ruled("lane 3 5;brother 2 5", "walk 0-boots");
    int[][] at = {{0, 2}, {1, 1}, {2, 0}, {23, 0}, {24, 2}, {25, 1}, {47, 0}};
    for (int[] a : at) {
      due("HOUR " + a[0], o.look(a[0], 0), a[1]);
      due("HOUR " + a[0], o.look(a[0], 1), 1);
    }
    due("48", o.look(48, 0), NONE);
    due("-1", o.look(-1, 0), NONE);
  }

  @Says("the most alike are fewest, of several the least; how many.")
  static void promise22_theMostAlikeAreFewest() {
    OneBoots o = ruled("lane 3 5;brother 1 5;brother 2 4", "walk 0-boots");
    // HOUR 1 at PLACE 1: 0 with bare feet, nobody, 1 with both (and 0 with bare feet)
    due("HOUR 1: PLACE 1 parts all three", o.look(1, 0), 1);
    due("one alike", o.look(1, 1), 1);
    // HOUR 2: whoever wears them is at PLACE 0; each PLACE leaves two alike
    due("HOUR 2: the least", o.look(2, 0), 0);
    due("two alike", o.look(2, 1), 2);
  }

  @Says("-2: there are no FEET. NONE without these, or a LANE.")
  static void promise22_withoutThese() {
    OneBoots o = on(HOMES);
    int[] n = {-1, 48, FAR, DEEP};
    for (int i : n) due("n " + i, o.look(i, 0), NONE);
    int[] what = {-1, 2, FAR, DEEP};
    for (int i : what) due("what " + i, o.look(0, i), NONE);
    due("no LANE", new OneBoots().look(0, 0), NONE);
    o.print(0, 1, 0, true);
    due("no FEET", o.look(0, 0), -2);
    due("no FEET", o.look(47, 1), -2);
    due("n 48, and no FEET", o.look(48, 0), NONE);
    due("what 2, and no FEET", o.look(0, 2), NONE);
    quiet("nothing changes", o, () -> o.look(0, 0), -2);
  }

  // ---- 23: cobbler -------------------------------------------------------------------------

  private static void cobbler(OneBoots o, int n, int w, int c, int f, int cost, int day) {
    String call = "n " + n + " w " + w + " c " + c + " f " + f;
    due(call, o.cobbler(0, n, w, c, f, 0), cost);
    due(call + ", the first DAY", o.cobbler(0, n, w, c, f, 1), day);
  }

  @Says("COBBLER for n DAYS (1 to 30): each DAY a boot is worn w more (0 to 99), a HOLE in it at a DAY's end costs f (0 to 99)")
  static void promise23_aHoleAtADaysEnd() {
    OneBoots o = on("lane 2 0;brother 0 0;sole 10");
    cobbler(o, 1, 9, 99, 7, 0, NONE);
    cobbler(o, 1, 10, 99, 7, 7, NONE);
    cobbler(o, 2, 5, 99, 7, 7, NONE);
    cobbler(o, 2, 4, 99, 7, 0, NONE);
    cobbler(o, 3, 5, 99, 7, 14, NONE);
    cobbler(o, 30, 0, 0, 99, 0, NONE);
    cobbler(o, 30, 99, 0, 99, 2970, NONE);
    cobbler(o, 30, 99, 99, 0, 0, NONE);
  }

  @Says("ahead of a DAY it can be cobbled for c (0 to 99; it is worn 0 then): the least it costs")
  static void promise23_theLeastItCosts() {
    OneBoots o = on("lane 2 0;brother 0 0;sole 10");
    cobbler(o, 3, 4, 5, 7, 5, 2);
    cobbler(o, 4, 4, 5, 7, 5, 2);
    cobbler(o, 5, 4, 5, 7, 10, 2);
    cobbler(o, 3, 4, 8, 7, 7, NONE);
    cobbler(o, 30, 9, 1, 2, 29, 1);
    cobbler(o, 30, 10, 1, 2, 60, NONE);
    cobbler(o, 30, 5, 3, 2, 58, NONE);
    cobbler(o, 30, 4, 3, 2, 42, 2);
    cobbler(o, 29, 4, 3, 2, 41, 3);
  }

  @Says("the first DAY (0 and on) ahead of which it is cobbled, of several ways the latest one (NONE: never).")
  static void promise23_ofSeveralWaysTheLatest() {
    OneBoots o = on("lane 2 0;brother 0 0;sole 10");
    cobbler(o, 4, 3, 5, 7, 5, 3);
    cobbler(o, 3, 4, 0, 7, 0, 2);
    cobbler(o, 2, 4, 0, 7, 0, NONE);
    cobbler(o, 3, 4, 7, 7, 7, NONE);
    cobbler(o, 30, 5, 0, 0, 0, NONE);
    OneBoots whole = on("lane 2 0;brother 0 0");
    cobbler(whole, 29, 1, 1, 2, 0, NONE);
    cobbler(whole, 30, 1, 1, 2, 1, 29);
    cobbler(whole, 30, 1, 2, 2, 2, NONE);
  }

  @Says("the least it costs for a boot as it is worn now")
  static void promise23_asItIsWornNow() {
    OneBoots o = ruled("lane 9 0;brother 0 0;sole 5", "walk 1");
    o.wear(0, 0);
    hours(o, 4);
    due("worn 4", o.boot(0, 2), 4);
    cobbler(o, 1, 0, 1, 9, 0, NONE);
    cobbler(o, 1, 1, 1, 9, 1, 0);
    cobbler(o, 1, 1, 9, 9, 9, NONE);
    o.hour();
    cobbler(o, 1, 0, 1, 9, 1, 0);
    cobbler(o, 3, 0, 5, 2, 5, 0);
    cobbler(o, 3, 0, 6, 2, 6, NONE);
    cobbler(o, 3, 0, 7, 2, 6, NONE);
    due("the other boot is whole", o.cobbler(1, 1, 1, 1, 9, 0), 0);
    due("the other boot is whole", o.cobbler(1, 1, 1, 1, 9, 1), NONE);
    OneBoots right = ruled("lane 9 0;brother 1 0;sole 5;boots 1", "walk 1");
    right.wear(1, 0);
    hours(right, 4);
    due("right is worn 4", right.cobbler(1, 1, 1, 1, 9, 0), 1);
    due("ahead of DAY 0", right.cobbler(1, 1, 1, 1, 9, 1), 0);
    due("left is whole", right.cobbler(0, 1, 1, 1, 9, 0), 0);
  }

  @Says("COBBLER what 0: the least it costs, 1: the first DAY (NONE: never). -2 without these.")
  static void promise23_withoutThese() {
    OneBoots o = on("lane 2 0;brother 0 0;sole 10");
    int[] boot = {-1, 2, FAR, DEEP};
    for (int i : boot) due("boot " + i, o.cobbler(i, 1, 1, 1, 1, 0), -2);
    int[] n = {0, -1, 31, FAR, DEEP};
    for (int i : n) due("n " + i, o.cobbler(0, i, 1, 1, 1, 0), -2);
    int[] up = {-1, 100, FAR, DEEP};
    for (int i : up) {
      due("w " + i, o.cobbler(0, 1, i, 1, 1, 0), -2);
      due("c " + i, o.cobbler(0, 1, 1, i, 1, 0), -2);
      due("f " + i, o.cobbler(0, 1, 1, 1, i, 0), -2);
    }
    int[] what = {-1, 2, FAR, DEEP};
    for (int i : what) due("what " + i, o.cobbler(0, 1, 1, 1, 1, i), -2);
    due("no LANE", new OneBoots().cobbler(0, 1, 1, 1, 1, 0), -2);
    due("the greatest", o.cobbler(1, 30, 99, 99, 99, 0), 2970);
    due("the least", o.cobbler(0, 1, 0, 0, 0, 0), 0);
    quiet("nothing changes", o, () -> o.cobbler(0, 3, 4, 5, 7, 1), 2);
  }

  // ---- 24: second --------------------------------------------------------------------------

  @Says("SECOND of a SIZE for n HOURS (1 to 24): by how much more these earn")
  static void promise24_from1To24Hours() {
    OneBoots o = on(SNOW);
    due("0", o.second(9, 0, 0), -100000);
    due("1", o.second(9, 1, 0), 0);
    due("4", o.second(9, 4, 0), 0);
    due("5", o.second(9, 5, 0), 30);
    due("24", o.second(9, 24, 0), 30);
    due("25", o.second(9, 25, 0), -100000);
    wearBoth(o, 1);
    due("more than the 30 he earns", o.second(9, 24, 0), 25);
    due("who", o.second(9, 24, 1), 2);
  }

  @Says("is worn from now on by one who wears no boot, and whose SIZE is not above that: the best")
  static void promise24_whoWearsNoBootAndFits() {
    OneBoots o = on(SNOW);
    due("SIZE 0", o.second(0, 24, 1), -2);
    due("SIZE 1", o.second(1, 24, 1), 0);
    due("20", o.second(1, 24, 0), 20);
    due("SIZE 2", o.second(2, 24, 1), 1);
    due("30", o.second(2, 24, 0), 30);
    o.wear(0, 1);
    due("he wears one", o.second(2, 24, 1), 0);
    due("another SIZE", o.second(5, 24, 1), 2);
    o.wear(1, 0);
    due("each wears one", o.second(2, 24, 1), -2);
    due("that of the boots is nothing to it", on("lane 4 0;brother 0 9;wet 1 9;wet 2 9;wet 3 9;frost 0 23;want 0 3 4 20").second(9, 24, 0), 20);
  }

  @Says("of several the least BROTHER")
  static void promise24_ofSeveralTheLeast() {
    due("30, 30", on(SNOW.replace("want 2 3 4 25", "want 2 3 4 30")).second(9, 24, 1), 1);
    due("nothing more: 0", on(SNOW).second(9, 4, 1), 0);
    due("of those who fit", on("lane 2 0;brother 0 5;brother 0 4;brother 0 4").second(4, 24, 1), 1);
    OneBoots less = ruled("lane 3 5;brother 0 1;brother 0 1;brother 0 1;want 0 0 1 9;want 1 0 1 7;want 2 0 1 7", "walk boots");
    due("less by each: the best", less.second(9, 2, 0), -7);
    due("the least of those", less.second(9, 2, 1), 1);
  }

  @Says({"if a second pair, whole, is worn from now on", "(the second pair is worn no more by walking; the WORD boots is 2 then)."})
  static void promise24_thePairStaysWhole() {
    OneBoots o = on(SNOW.replace("sole 50", "sole 1"));
    due("whole in each HOUR", o.second(9, 24, 0), 30);
    OneBoots boots = ruled("lane 3 5;brother 0 1;want 0 1 1 7", "walk 1 if boots=2");
    due("the WORD boots is 2", boots.second(9, 2, 0), 7);
    OneBoots not = ruled("lane 3 5;brother 0 1;brother 0 1;want 1 1 1 7", "walk 1 if boots=2");
    due("of him alone", not.second(9, 2, 1), 1);
    OneBoots dry = ruled("lane 4 5;brother 0 1;wet 1 9;want 0 2 2 7", "walk 1 if chill=0");
    due("his CHILL stays 0", dry.second(9, 3, 0), 7);
    OneBoots lying = ruled("lane 3 5;brother 0 1;want 0 1 1 7", "walk lying-1 if boots=2");
    due("the first pair lies as it did", lying.second(9, 2, 0), 7);
  }

  @Says("SECOND what 0: how much more (0: nobody can), 1: who (-2: nobody can).")
  static void promise24_nobodyCan() {
    OneBoots o = on(SNOW);
    due("too small: how much", o.second(0, 24, 0), 0);
    due("too small: who", o.second(0, 24, 1), -2);
    due("no BROTHERS: how much", on("lane 2 0").second(9, 24, 0), 0);
    due("no BROTHERS: who", on("lane 2 0").second(9, 24, 1), -2);
  }

  @Says("-100000 without these, or a LANE.")
  static void promise24_withoutThese() {
    OneBoots o = on(SNOW);
    int[] size = {-1, 10, FAR, DEEP};
    for (int i : size) due("SIZE " + i, o.second(i, 24, 0), -100000);
    int[] n = {0, -1, 25, FAR, DEEP};
    for (int i : n) due("n " + i, o.second(9, i, 1), -100000);
    int[] what = {-1, 2, FAR, DEEP};
    for (int i : what) due("what " + i, o.second(9, 24, i), -100000);
    due("no LANE", new OneBoots().second(9, 24, 0), -100000);
    due("no LANE", new OneBoots().second(9, 24, 1), -100000);
    quiet("nothing changes", o, () -> o.second(9, 24, 0), 30);
  }
}
