/** The edges of promises 7 to 14: who is where, how an HOUR passes, the ACTS and their undoing. */
final class EdgesOfHours extends Edge {
  // BROTHER 0 fits just so, 1 fits, 2 is too big; the boots lie where 0 and 1 live
  private static final String THREE = "lane 4 5;brother 1 5;brother 1 4;brother 1 6;brother 3 0;wet 2 3;boots 1";

  // ---- 7: brother --------------------------------------------------------------------------

  @Says("Of a BROTHER what 0: PLACE, 1: home, 2: SIZE, 3: CHILL, 4: 1 if FROZEN, else 0, 5: boots he wears, as bits, "
      + "6: what he earned, 7: his goal.")
  static void promise07_eachWhat() {
    OneBoots o = on("lane 5 7;brother 1 6;brother 4 2;wet 2 4;want 0 1 0 9;want 0 3 8 5;boots 1");
    o.wear(1, 0);
    hours(o, 2);
    int[] want = {2, 1, 6, 4, 0, 2, 9, 3};
    for (int what = 0; what < 8; what++) due("what " + what, o.brother(0, what), want[what]);
    int[] other = {4, 4, 2, 0, 0, 0, 0, 4};
    for (int what = 0; what < 8; what++) due("of 1 what " + what, o.brother(1, what), other[what]);
  }

  @Says("NONE without these.")
  static void promise07_withoutThese() {
    OneBoots o = on("lane 5 7;brother 1 6;brother 4 2");
    due("brother -1", o.brother(-1, 0), NONE);
    due("brother 2 of 2", o.brother(2, 0), NONE);
    due("brother far", o.brother(FAR, 0), NONE);
    due("brother deep", o.brother(DEEP, 0), NONE);
    due("what -1", o.brother(0, -1), NONE);
    due("what 8", o.brother(0, 8), NONE);
    due("what far", o.brother(0, FAR), NONE);
    due("what deep", o.brother(0, DEEP), NONE);
    due("no BROTHERS", on("lane 5 7").brother(0, 0), NONE);
    due("no LANE", new OneBoots().brother(0, 0), NONE);
    due("the last one", o.brother(1, 7), 4);
    due("the sixth", on("lane 2 0" + times(";brother 0 3", 6)).brother(5, 2), 3);
  }

  @Says("5: boots he wears, as bits")
  static void promise07_bootsAsBits() {
    OneBoots o = on(THREE);
    due("none", o.brother(0, 5), 0);
    o.wear(0, 0);
    due("left", o.brother(0, 5), 1);
    o.wear(1, 0);
    due("both", o.brother(0, 5), 3);
    o.off(0);
    due("right", o.brother(0, 5), 2);
    o.wear(0, 1);
    due("another has the left", o.brother(1, 5), 1);
    due("he the right", o.brother(0, 5), 2);
  }

  @Says("A BROTHER's next WANT: that of his with the least HOUR not below the HOUR, of several the first told")
  static void promise07_theNextWant() {
    OneBoots o = ruled("lane 6 0;brother 0 0;brother 0 0;want 0 5 4 1;want 0 2 2 1;want 1 4 1 1;want 0 3 2 1", "walk 0");
    int[] goals = {2, 2, 2, 5, 5, 0, 0};
    for (int hour = 0; hour < goals.length; hour++) {
      due("goal in HOUR " + hour, o.brother(0, 7), goals[hour]);
      o.hour();
    }
  }

  @Says("he has none left: his goal is his home, its pay and HOURS till it are 0.")
  static void promise07_noWantIsLeft() {
    String lane = "lane 6 0;brother 3 0;brother 1 0;want 0 5 0 7;want 1 4 23 8";
    OneBoots o = on(lane);
    due("in HOUR 0", o.brother(0, 7), 5);
    force(o, "walk 0");
    hours(o, 1);
    due("in HOUR 1", o.brother(0, 7), 3);
    force(o, "walk 1 if goal=home and pay=0 and until=0");
    due("pay and until are 0", o.ahead(0, 1, 0), 4);
    due("his brother has one", o.ahead(1, 1, 0), 1);
    o.force(0);
    hours(o, 22);
    due("in HOUR 23", o.brother(1, 7), 4);
    hours(o, 1);
    due("on the next DAY", o.brother(0, 7), 5);
    holds("lane 3 0;brother 1 0", 0, "goal=1 and pay=0 and until=0", true);
  }

  @Says("pay (of that), until (HOURS till it)")
  static void promise07_payAndHoursTillIt() {
    String lane = "lane 6 0;brother 0 0;want 0 1 23 50;want 0 1 23 40";
    holds(lane, 0, "until=23 and pay=50", true);
    OneBoots o = ruled(lane, "walk 1 if until=0 and pay=50");
    o.wear(0, 0);
    hours(o, 23);
    due("till then it is not 0", o.boot(0, 2), 0);
    o.hour();
    due("in HOUR 23 it is, and he walked", o.boot(0, 2), 1);
  }

  // ---- 8: boot -----------------------------------------------------------------------------

  @Says("Of a boot (0, 1) what 0: who wears it (NONE), 1: the PLACE where it is, 2: how much it is worn, "
      + "3: 1 if it has a HOLE, else 0.")
  static void promise08_eachWhat() {
    OneBoots o = ruled("lane 4 5;brother 1 5;boots 1;sole 2", "walk 1");
    o.wear(0, 0);
    hours(o, 2);
    int[] left = {0, 3, 2, 1};
    int[] right = {NONE, 1, 0, 0};
    for (int what = 0; what < 4; what++) {
      due("left " + what, o.boot(0, what), left[what]);
      due("right " + what, o.boot(1, what), right[what]);
    }
  }

  @Says("BOOTS 0 (left), 1 (right): one is worn by a BROTHER, or lies at a PLACE.")
  static void promise08_wornOrLies() {
    OneBoots o = on(THREE);
    due("it lies", o.boot(0, 0), NONE);
    due("at PLACE 1", o.boot(0, 1), 1);
    o.wear(0, 1);
    due("1 wears it", o.boot(0, 0), 1);
    due("the bit of the left", o.brother(1, 5), 1);
    due("where he is", o.boot(0, 1), 1);
    o.wear(1, 0);
    due("0 wears the right", o.boot(1, 0), 0);
    due("the bit of the right", o.brother(0, 5), 2);
    o.off(0);
    due("it lies again", o.boot(0, 0), NONE);
    due("none of his", o.brother(1, 5), 0);
  }

  @Says("-2 without these, or a LANE.")
  static void promise08_withoutThese() {
    OneBoots o = on(THREE);
    due("boot -1", o.boot(-1, 0), -2);
    due("boot 2", o.boot(2, 0), -2);
    due("boot far", o.boot(FAR, 0), -2);
    due("boot deep", o.boot(DEEP, 0), -2);
    due("what -1", o.boot(0, -1), -2);
    due("what 4", o.boot(0, 4), -2);
    due("what far", o.boot(1, FAR), -2);
    due("what deep", o.boot(1, DEEP), -2);
    for (int what = 0; what < 4; what++) due("no LANE", new OneBoots().boot(0, what), -2);
    due("a LANE without BROTHERS", on("lane 2 0;boots 1").boot(1, 1), 1);
  }

  @Says("a HOLE (worn as much as the SOLE, or more)")
  static void promise08_aHole() {
    OneBoots o = ruled("lane 6 5;brother 0 5;sole 3;frost 3 3", "walk 1");
    wearBoth(o, 0);
    int[] worn = {0, 1, 2, 3, 5};
    int[] hole = {0, 0, 0, 1, 1};
    for (int i = 0; i < worn.length; i++) {
      due("worn", o.boot(0, 2), worn[i]);
      due("HOLE", o.boot(0, 3), hole[i]);
      due("HOLE of the right", o.boot(1, 3), hole[i]);
      o.hour();
    }
    OneBoots right = ruled("lane 6 5;brother 0 5;sole 1;boots 0", "walk 1");
    right.wear(1, 0);
    right.hour();
    due("right has one", right.boot(1, 3), 1);
    due("left has none", right.boot(0, 3), 0);
  }

  // ---- 9: wet ------------------------------------------------------------------------------

  @Says("WET of a PLACE; NONE without it.")
  static void promise09_withoutAPlace() {
    OneBoots o = on("lane 3 0;wet 0 1;wet 2 9");
    due("first", o.wet(0), 1);
    due("last", o.wet(2), 9);
    due("-1", o.wet(-1), NONE);
    due("3", o.wet(3), NONE);
    due("far", o.wet(FAR), NONE);
    due("deep", o.wet(DEEP), NONE);
    due("no LANE", new OneBoots().wet(0), NONE);
    tellLane(o, "lane 2 0");
    due("a shorter LANE", o.wet(2), NONE);
  }

  // ---- 10: hour, (1) -----------------------------------------------------------------------

  @Says("for each WANT of this HOUR whose BROTHER is at its PLACE, and not FROZEN, its PAY is earned by him.")
  static void promise10_payAtThePlaceInTheHour() {
    OneBoots o = ruled("lane 3 0;brother 0 0;brother 1 0;want 0 0 1 5;want 0 1 1 6;want 1 1 1 7;want 1 1 2 8;want 0 0 1 9", "walk 0");
    due("HOUR 0", o.hour(), 0);
    due("HOUR 1: 5, 7 and 9", o.hour(), 21);
    due("of 0", o.brother(0, 6), 14);
    due("of 1", o.brother(1, 6), 7);
    due("HOUR 2", o.hour(), 8);
    due("of 1", o.brother(1, 6), 15);
    due("HOUR 3", o.hour(), 0);
    due("of all", o.count(9), 29);
  }

  @Says("for each WANT of this HOUR whose BROTHER is at its PLACE")
  static void promise10_payComesAheadOfTheWalk() {
    OneBoots away = ruled("lane 3 0;brother 0 0;want 0 0 0 5;want 0 1 0 6", "walk 1");
    due("where he was", away.hour(), 5);
    OneBoots last = ruled("lane 3 0;brother 0 0;want 0 0 23 5", "walk 0");
    hours(last, 23);
    due("in HOUR 23", last.hour(), 5);
    due("each DAY anew", last.ahead(0, 96, 2), 25);
  }

  @Says("and not FROZEN, its PAY is earned by him.")
  static void promise10_noPayIfFrozen() {
    // one foot bare at PLACE 1: 9 an HOUR, 54 behind six; then PLACE 2
    String lane = "lane 3 5;brother 0 5;wet 1 9;sole 99;want 0 2 7 10;wet 2 ";
    String rule = "walk 1 if hour=0 or hour=6";
    OneBoots warm = ruled(lane + "5", rule);
    warm.wear(0, 0);
    hours(warm, 7);
    due("CHILL 59", warm.brother(0, 3), 59);
    due("he is not FROZEN", warm.brother(0, 4), 0);
    due("and is paid", warm.hour(), 10);
    OneBoots cold = ruled(lane + "6", rule);
    cold.wear(0, 0);
    hours(cold, 7);
    due("CHILL 60", cold.brother(0, 3), 60);
    due("he is FROZEN", cold.brother(0, 4), 1);
    due("at its PLACE", cold.brother(0, 0), 2);
    due("and is not paid", cold.hour(), 0);
  }

  // ---- 10: hour, (2) -----------------------------------------------------------------------

  @Says("walks one PLACE back, if the SUM of the first CLAUSE without a TEST, or whose TEST holds (0 without), "
      + "of the RULE IN FORCE is below 0, one ahead, if it is above 0")
  static void promise10_theFirstClauseThatHolds() {
    due("below 0", way("walk 0-1"), -1);
    due("far below 0: one PLACE", way("walk 0-99999"), -1);
    due("0", way("walk 1-1"), 0);
    due("above 0", way("walk 1"), 1);
    due("far above 0: one PLACE", way("walk 99999"), 1);
    due("the first without a TEST", way("walk 1;walk 0-1"), 1);
    due("the first whose TEST holds", way("walk 1 if 1=2;walk 0-1 if 1=1;walk 1 if 1=1"), -1);
    due("0 by the first", way("walk 0;walk 1"), 0);
    due("one without a TEST behind", way("walk 1 if 1=2;walk 0-1;walk 1 if 1=1"), -1);
  }

  @Says("(0 without)")
  static void promise10_noClauseHolds() {
    due("none of one", way("walk 1 if 1=2"), 0);
    due("none of two", way("walk 1 if 1=2;walk 0-1 if 2=1"), 0);
    OneBoots o = ruled("lane 3 5;brother 1 5;want 0 2 5 1", "walk 1 if 1=2");
    due("not towards his goal either", o.ahead(0, 1, 0), 1);
  }

  @Says("(not off the lane;")
  static void promise10_notOffTheLane() {
    OneBoots end = ruled("lane 3 5;brother 2 5;boots 2", "walk 1");
    wearBoth(end, 0);
    end.hour();
    due("at the last PLACE", end.brother(0, 0), 2);
    due("he has not walked", end.boot(0, 2), 0);
    OneBoots begin = ruled("lane 3 5;brother 0 5", "walk 0-1");
    wearBoth(begin, 0);
    begin.hour();
    due("at PLACE 0", begin.brother(0, 0), 0);
    due("he has not walked", begin.boot(1, 2), 0);
    OneBoots ten = ruled("lane 10 5;brother 8 5", "walk 1");
    due("to the tenth", ten.ahead(0, 1, 0), 9);
    due("and no more", ten.ahead(0, 2, 0), 9);
  }

  @Says("those ahead of him have walked already)")
  static void promise10_thoseAheadHaveWalked() {
    String lane = "lane 3 5;brother 0 5;brother 0 5";
    OneBoots first = ruled(lane, "walk 1 if brother=0 or others=0");
    first.hour();
    due("0 walks", first.brother(0, 0), 1);
    due("1 is alone then", first.brother(1, 0), 1);
    OneBoots last = ruled(lane, "walk 1 if brother=1 or others=0");
    last.hour();
    due("0 is not alone yet", last.brother(0, 0), 0);
    due("1 walks", last.brother(1, 0), 1);
    OneBoots meet = ruled("lane 3 5;brother 0 5;brother 1 5", "walk 1 if brother=0 or others=1");
    meet.hour();
    due("0 comes to 1, who walks on", meet.brother(1, 0), 2);
  }

  @Says("without a RULE towards his goal.")
  static void promise10_towardsHisGoal() {
    OneBoots o = on("lane 5 5;brother 2 5;want 0 4 1 1;want 0 4 3 1;want 0 1 9 1");
    // 4 is his goal till HOUR 3 and in it, 1 till HOUR 9 and in it, then his home
    int[] places = {2, 3, 4, 4, 4, 3, 2, 1, 1, 1, 1, 2, 2};
    for (int hour = 0; hour < places.length; hour++) {
      due("in HOUR " + hour, o.brother(0, 0), places[hour]);
      o.hour();
    }
    due("paid for 4 in HOUR 3, and 1 in HOUR 9", o.brother(0, 6), 2);
  }

  @Says("without a RULE towards his goal.")
  static void promise10_inTheHourItselfTheWantIsStillTheGoal() {
    OneBoots o = on("lane 5 5;brother 0 5;want 0 4 0 1");
    o.hour();
    due("he is too late, but walks that way", o.brother(0, 0), 1);
    o.hour();
    due("then home", o.brother(0, 0), 0);
  }

  @Says("each BROTHER, by numbers, who is not FROZEN, walks")
  static void promise10_frozenDoesNotWalk() {
    OneBoots o = ruled("lane 4 5;brother 0 5;wet 1 9;wet 2 9;wet 3 9;frost 0 1;sole 1", "walk 1");
    wearBoth(o, 0);
    hours(o, 2);
    due("CHILL 72", o.brother(0, 3), 72);
    due("FROZEN", o.brother(0, 4), 1);
    due("worn", o.boot(0, 2), 4);
    o.hour();
    due("he stays", o.brother(0, 0), 2);
    due("his boots are worn no more", o.boot(0, 2), 4);
  }

  @Says("Boots he wears go with him; if he walked, each is worn 1 more, in FROST 2 (999 at most).")
  static void promise10_bootsAreWornByWalking() {
    OneBoots o = ruled("lane 5 5;brother 0 5;brother 0 5;frost 1 1", "walk 1 if hour<2 and brother=0");
    wearBoth(o, 0);
    o.hour();
    for (int k = 0; k < 2; k++) {
      due("worn 1", o.boot(k, 2), 1);
      due("it goes with him", o.boot(k, 1), 1);
    }
    o.off(1);
    o.hour();
    due("in FROST 2 more", o.boot(0, 2), 3);
    due("the other lies", o.boot(1, 1), 1);
    due("and is worn no more", o.boot(1, 2), 1);
    o.hour();
    due("he did not walk", o.boot(0, 2), 3);
  }

  @Says("in FROST 2 (999 at most).")
  static void promise10_worn999AtMost() {
    // 512 calls are enough for it: 500 HOURS, two an HOUR
    OneBoots o = new OneBoots();
    tellLane(o, "lane 2 0;brother 0 0;frost 0 23");
    force(o, "walk 1-2*place");
    o.wear(1, 0);
    hours(o, 499);
    due("998", o.boot(1, 2), 998);
    o.hour();
    due("999", o.boot(1, 2), 999);
    o.hour();
    due("999 again", o.boot(1, 2), 999);
  }

  @Says("FROST is in the HOURS told.")
  static void promise10_frostInTheHoursTold() {
    String lane = "lane 2 5;brother 0 5;frost 2 3;frost 5 5;frost 23 23;frost 0 0";
    OneBoots o = ruled(lane, "walk 1-2*place");
    o.wear(0, 0);
    int[] more = {2, 1, 2, 2, 1, 2, 1};
    int worn = 0;
    for (int hour = 0; hour < more.length; hour++) {
      o.hour();
      worn += more[hour];
      due("worn behind HOUR " + hour, o.boot(0, 2), worn);
    }
    for (int hour = 0; hour < more.length; hour++) {
      OneBoots w = ruled(lane, "walk 0");
      hours(w, hour);
      force(w, "walk frost");
      due("the WORD in HOUR " + hour, w.ahead(0, 1, 0), more[hour] - 1);
    }
    hours(o, 16);
    due("HOUR 23", o.count(7), 23);
    worn = o.boot(0, 2);
    o.hour();
    due("in HOUR 23", o.boot(0, 2), worn + 2);
    o.hour();
    due("on the next DAY, too", o.boot(0, 2), worn + 4);
  }

  // ---- 10: hour, (3) -----------------------------------------------------------------------

  @Says("CHILL of each BROTHER: at home 4 less (0 at least)")
  static void promise10_chillAtHome() {
    int[] chill = {2, 4, 6, 8};
    int[] less = {0, 0, 2, 4};
    for (int wet = 1; wet <= 4; wet++) {
      OneBoots o = ruled("lane 2 5;brother 0 5;wet 0 9;wet 1 " + wet, "walk 1 if hour=0;walk 0-1");
      o.hour();
      due("away", o.brother(0, 3), chill[wet - 1]);
      o.hour();
      due("at home", o.brother(0, 3), less[wet - 1]);
      o.hour();
      due("0 at least", o.brother(0, 3), 0);
    }
  }

  @Says("CHILL of each BROTHER: at home 4 less (0 at least)")
  static void promise10_atHomeItIsNeverWet() {
    OneBoots o = ruled("lane 2 5;brother 0 5;brother 1 5;wet 0 9;frost 0 23", "walk 0-brother");
    o.hour();
    due("at home", o.brother(0, 3), 0);
    due("at another's home", o.brother(1, 3), 36);
  }

  @Says("elsewhere for each foot without a boot, or in a boot with a HOLE (worn as much as the SOLE, or more), "
      + "WET of his PLACE more, in FROST twice")
  static void promise10_chillOfEachFoot() {
    String lane = "lane 2 5;brother 0 5;wet 1 7";
    int[] bare = {14, 7, 7, 0};
    for (int boots = 0; boots < 4; boots++) {
      for (int frost = 0; frost < 2; frost++) {
        OneBoots o = ruled(lane + (frost == 1 ? ";frost 0 0" : ";frost 1 1"), "walk 1");
        if ((boots & 1) == 1) o.wear(0, 0);
        if ((boots & 2) == 2) o.wear(1, 0);
        o.hour();
        due("boots " + boots + " FROST " + frost, o.brother(0, 3), bare[boots] * (1 + frost));
      }
    }
  }

  @Says("in a boot with a HOLE (worn as much as the SOLE, or more)")
  static void promise10_chillThroughAHole() {
    OneBoots o = ruled("lane 6 5;brother 0 5;wet 1 1;wet 2 1;wet 3 1;wet 4 1;sole 3", "walk 1");
    wearBoth(o, 0);
    int[] chill = {0, 0, 2, 4};
    for (int want : chill) {
      o.hour();
      due("worn " + o.boot(0, 2), o.brother(0, 3), want);
    }
    OneBoots one = ruled("lane 2 5;brother 0 5;wet 1 5;sole 3", "walk 1-2*place");
    one.wear(0, 0);
    hours(one, 2);
    one.wear(1, 0);
    due("5 less 4", one.brother(0, 3), 1);
    one.hour();
    due("left has a HOLE", one.boot(0, 3), 1);
    due("right has none", one.boot(1, 3), 0);
    due("by one foot", one.brother(0, 3), 6);
  }

  @Says("in FROST twice (99 at most)")
  static void promise10_chill99AtMost() {
    // one bare foot, 9 an HOUR: 90, 99, 99
    OneBoots o = ruled("lane 2 5;brother 0 5;wet 1 9;sole 99", "walk 1");
    o.wear(1, 0);
    hours(o, 10);
    due("90", o.brother(0, 3), 90);
    o.hour();
    due("just 99", o.brother(0, 3), 99);
    o.hour();
    due("99 at most", o.brother(0, 3), 99);
    OneBoots f = ruled("lane 2 5;brother 0 5;wet 1 9;frost 0 23", "walk 1");
    hours(f, 2);
    due("72", f.brother(0, 3), 72);
    f.hour();
    due("not 108", f.brother(0, 3), 99);
  }

  @Says("at 60 or above he is FROZEN, till the DAY is over.")
  static void promise10_frozenAt60() {
    // both feet bare: 10 an HOUR
    OneBoots o = ruled("lane 2 5;brother 0 5;wet 1 5", "walk 1");
    hours(o, 5);
    due("50", o.brother(0, 3), 50);
    due("not yet", o.brother(0, 4), 0);
    o.hour();
    due("60", o.brother(0, 3), 60);
    due("FROZEN", o.brother(0, 4), 1);
    force(o, "walk 0-1");
    hours(o, 17);
    due("HOUR 23", o.count(7), 23);
    due("FROZEN still", o.brother(0, 4), 1);
    due("he could not walk home", o.brother(0, 0), 1);
    due("CHILL of one FROZEN goes on", o.brother(0, 3), 99);
    o.hour();
    due("the DAY is over", o.brother(0, 4), 0);
  }

  @Says("CHILL of each BROTHER")
  static void promise10_sixBrothersAtOnce() {
    // BROTHER b walks b + 1 PLACES, where it is the wetter the farther
    String lane = "lane 7 5" + times(";brother 0 5", 6) + ";wet 1 1;wet 2 2;wet 3 3;wet 4 4;wet 5 5;wet 6 6";
    String wants = ";want 0 1 7 10;want 1 2 7 11;want 2 3 7 12;want 3 4 7 13;want 4 5 7 14;want 5 6 7 15"
        + ";want 3 4 8 1;want 4 5 8 1;want 5 6 8 1";
    OneBoots o = ruled(lane + wants, "walk 1 if hour<brother+1");
    hours(o, 7);
    due("HOUR 7: all", o.hour(), 75);
    sixRows("HOUR 8", o, new int[] {1, 2, 3, 4, 5, 6}, new int[] {16, 30, 42, 52, 60, 66}, new int[] {0, 0, 0, 0, 1, 1});
    due("HOUR 8: only 3 is not FROZEN", o.hour(), 1);
    sixRows("HOUR 9", o, new int[] {1, 2, 3, 4, 5, 6}, new int[] {18, 34, 48, 60, 70, 78}, new int[] {0, 0, 0, 1, 1, 1});
    force(o, "walk 0-1");
    o.hour();
    sixRows("HOUR 10", o, new int[] {0, 1, 2, 4, 5, 6}, new int[] {14, 36, 52, 68, 80, 90}, new int[] {0, 0, 0, 1, 1, 1});
    o.hour();
    sixRows("HOUR 11", o, new int[] {0, 0, 1, 4, 5, 6}, new int[] {10, 32, 54, 76, 90, 99}, new int[] {0, 0, 0, 1, 1, 1});
    int[] earned = {10, 11, 12, 14, 14, 15};
    for (int b = 0; b < 6; b++) due("earned by " + b, o.brother(b, 6), earned[b]);
    due("earned by all", o.count(9), 76);
    hours(o, 13);
    sixRows("DAY 1", o, new int[6], new int[6], new int[6]);
    for (int b = 0; b < 6; b++) due("earned by " + b, o.brother(b, 6), earned[b]);
  }

  private static void sixRows(String when, OneBoots o, int[] places, int[] chills, int[] frozen) {
    for (int b = 0; b < 6; b++) {
      due(when + ", PLACE of " + b, o.brother(b, 0), places[b]);
      due(when + ", CHILL of " + b, o.brother(b, 3), chills[b]);
      due(when + ", FROZEN " + b, o.brother(b, 4), frozen[b]);
    }
  }

  // ---- 10: hour, (4) -----------------------------------------------------------------------

  @Says("HOUR is 1 more; behind 23 it is 0, DAY 1 more (999 at most), each BROTHER is at home with the boots he wears, "
      + "CHILL 0, nobody FROZEN.")
  static void promise10_behindHour23() {
    OneBoots o = ruled("lane 4 5;brother 1 5;brother 1 5;wet 2 9;wet 3 9;want 0 1 0 7;boots 1", "walk 1");
    o.wear(0, 0);
    o.wear(1, 1);
    hours(o, 2);
    o.off(1);
    hours(o, 21);
    due("HOUR 23", o.count(7), 23);
    due("DAY 0", o.count(8), 0);
    due("away", o.boot(0, 1), 3);
    due("FROZEN", o.brother(0, 4) + o.brother(1, 4), 2);
    o.hour();
    due("HOUR 0", o.count(7), 0);
    due("DAY 1", o.count(8), 1);
    for (int b = 0; b < 2; b++) {
      due("at home", o.brother(b, 0), 1);
      due("CHILL", o.brother(b, 3), 0);
      due("not FROZEN", o.brother(b, 4), 0);
    }
    due("with the boot he wears", o.boot(0, 1), 1);
    due("which he still wears", o.boot(0, 0), 0);
    due("not worn by that", o.boot(0, 2), 2);
    due("a boot that lies stays there", o.boot(1, 1), 3);
    due("what was earned stays", o.count(9), 7);
    hours(o, 24);
    due("DAY 2", o.count(8), 2);
  }

  @Says("what was earned in it; NONE, and nothing happens, without a LANE, or in HOUR 23 of DAY 999.")
  static void promise10_withoutALane() {
    OneBoots o = new OneBoots();
    quiet("hour", o, o::hour, NONE);
    tellRule(o, "walk 1");
    o.force(0);
    quiet("hour by a RULE", o, o::hour, NONE);
    OneBoots empty = on("lane 2 0");
    due("a LANE without BROTHERS", empty.hour(), 0);
    due("its HOUR", empty.count(7), 1);
  }

  @Says({"DAY 1 more (999 at most)", "or in HOUR 23 of DAY 999."})
  static void promise10_hour23OfDay999() {
    // it lies behind the 512th call, but the call has to answer all the same
    OneBoots o = on("lane 2 0;brother 0 0;want 0 0 23 1");
    hours(o, 999 * 24 + 22);
    due("DAY 999", o.count(8), 999);
    due("HOUR 22", o.hour(), 0);
    quiet("HOUR 23", o, o::hour, NONE);
    due("what would be there", o.ahead(0, 1, 2), o.brother(0, 6) + 1);
    due("and on", o.ahead(0, 25, 2), o.brother(0, 6) + 2);
  }

  // ---- 11: wear ----------------------------------------------------------------------------

  @Says("PUT ON (a boot that lies at a BROTHER's PLACE, or that another one there wears, "
      + "by one whose SIZE is not above that of the boots)")
  static void promise11_aBootThatLiesThere() {
    OneBoots o = on(THREE);
    due("nobody wore it", o.wear(0, 0), NONE);
    due("who wears it", o.boot(0, 0), 0);
    quiet("he is elsewhere", o, () -> o.wear(1, 3), -2);
    due("each boot by itself", o.boot(1, 0), NONE);
    due("the other one", o.wear(1, 1), NONE);
    due("acts", o.count(12), 2);
  }

  @Says("or that another one there wears")
  static void promise11_aBootThatAnotherWears() {
    OneBoots o = on(THREE);
    o.wear(0, 0);
    due("who wore it", o.wear(0, 1), 0);
    due("who wears it", o.boot(0, 0), 1);
    quiet("he wears it himself", o, () -> o.wear(0, 1), -2);
    due("back again", o.wear(0, 0), 1);
    OneBoots apart = ruled("lane 4 5;brother 1 5;brother 1 4;boots 1", "walk 1-brother");
    apart.wear(0, 0);
    apart.hour();
    quiet("the other one is elsewhere now", apart, () -> apart.wear(0, 1), -2);
  }

  @Says("by one whose SIZE is not above that of the boots)")
  static void promise11_sizes() {
    OneBoots o = on(THREE);
    quiet("6 is above 5", o, () -> o.wear(0, 2), -2);
    due("5 is not", o.wear(0, 0), NONE);
    quiet("6 is above 5, from another", o, () -> o.wear(0, 2), -2);
    due("4 is not", o.wear(0, 1), 0);
    due("0 by boots of 0", on("lane 2 0;brother 0 0").wear(0, 0), NONE);
    due("1 by boots of 0", on("lane 2 0;brother 0 1").wear(0, 0), -2);
    due("9 by boots of 9", on("lane 2 9;brother 0 9").wear(1, 0), NONE);
  }

  @Says("-2, and nothing happens, without these.")
  static void promise11_withoutThese() {
    OneBoots o = on(THREE);
    int[] far = {-1, 2, FAR, DEEP};
    for (int k : far) quiet("boot " + k, o, () -> o.wear(k, 0), -2);
    int[] none = {NONE, -2, 4, 6, FAR, DEEP};
    for (int b : none) quiet("brother " + b, o, () -> o.wear(0, b), -2);
    OneBoots empty = new OneBoots();
    quiet("no LANE", empty, () -> empty.wear(0, 0), -2);
    OneBoots alone = on("lane 2 0");
    quiet("no BROTHERS", alone, () -> alone.wear(0, 0), -2);
  }

  @Says("PUT ON: who wore it (NONE: nobody)")
  static void promise11_oneFrozenCanPutOn() {
    OneBoots o = ruled("lane 2 5;brother 0 5;brother 0 5;wet 1 9;frost 0 2", "walk 1");
    o.wear(0, 1);
    hours(o, 2);
    due("he is FROZEN", o.brother(0, 4), 1);
    due("he takes it", o.wear(0, 0), 1);
  }

  // ---- 12: off -----------------------------------------------------------------------------

  @Says({"TAKE OFF (one that is worn; it lies there)", "TAKE OFF: the PLACE"})
  static void promise12_itLiesThere() {
    OneBoots o = ruled("lane 4 5;brother 1 5;boots 1", "walk 1");
    wearBoth(o, 0);
    hours(o, 2);
    due("the PLACE", o.off(1), 3);
    due("where it lies", o.boot(1, 1), 3);
    due("nobody wears it", o.boot(1, 0), NONE);
    due("as worn as it was", o.boot(1, 2), 2);
    due("the other is on", o.brother(0, 5), 1);
    due("an act", o.count(12), 5);
  }

  @Says("NONE, and nothing happens, without a boot that is worn.")
  static void promise12_withoutABootThatIsWorn() {
    OneBoots o = on(THREE);
    o.wear(0, 0);
    quiet("nobody wears it", o, () -> o.off(1), NONE);
    int[] far = {-1, 2, FAR, DEEP};
    for (int k : far) quiet("boot " + k, o, () -> o.off(k), NONE);
    due("off", o.off(0), 1);
    quiet("off again", o, () -> o.off(0), NONE);
    OneBoots empty = new OneBoots();
    quiet("no LANE", empty, () -> empty.off(0), NONE);
  }

  // ---- 13: cobble --------------------------------------------------------------------------

  /** Both boots worn 2, so much earned by the one or the other. */
  private static OneBoots earned(int first, int second) {
    OneBoots o = ruled("lane 3 5;brother 0 5;brother 0 4;want 0 0 0 " + first + ";want 1 0 0 " + second + ";sole 2",
        "walk 1-brother");
    wearBoth(o, 0);
    hours(o, 2);
    return o;
  }

  @Says("COBBLE (one is worn 0 then, if it is worn at all; 10 of what all have earned together and not spent are spent).")
  static void promise13_tenAreSpent() {
    OneBoots o = earned(7, 16);
    due("earned", o.count(9), 23);
    due("a HOLE", o.boot(0, 3), 1);
    due("13 are left", o.cobble(0), 13);
    due("worn 0", o.boot(0, 2), 0);
    due("no HOLE", o.boot(0, 3), 0);
    due("the other as it was", o.boot(1, 2), 2);
    due("he still wears it", o.boot(0, 0), 0);
    due("spent", o.count(10), 10);
    due("earned by all", o.count(9), 23);
    due("earned by him", o.brother(0, 6), 7);
    due("3 are left", o.cobble(1), 3);
    due("spent", o.count(10), 20);
    due("worn 0", o.boot(1, 2), 0);
    due("where he is", o.boot(1, 1), 2);
    due("still there", o.off(1), 2);
  }

  @Says("how much is left unspent; NONE, and nothing happens, without these (worn at all, 10 unspent).")
  static void promise13_tenUnspent() {
    OneBoots nine = earned(4, 5);
    quiet("9", nine, () -> nine.cobble(0), NONE);
    OneBoots ten = earned(4, 6);
    due("10", ten.cobble(0), 0);
    quiet("0 are left", ten, () -> ten.cobble(1), NONE);
    OneBoots nineteen = earned(9, 10);
    due("19", nineteen.cobble(0), 9);
    quiet("9 are left", nineteen, () -> nineteen.cobble(1), NONE);
    OneBoots twenty = earned(10, 10);
    due("20", twenty.cobble(0), 10);
    due("10", twenty.cobble(1), 0);
  }

  @Says("if it is worn at all")
  static void promise13_wornAtAll() {
    OneBoots o = ruled("lane 3 5;brother 0 5;want 0 0 0 50", "walk 1");
    o.wear(0, 0);
    quiet("worn 0", o, () -> o.cobble(0), NONE);
    o.hour();
    quiet("the other is worn 0", o, () -> o.cobble(1), NONE);
    due("worn 1", o.cobble(0), 40);
    quiet("worn 0 again", o, () -> o.cobble(0), NONE);
    o.hour();
    o.off(0);
    due("one that lies", o.cobble(0), 30);
  }

  @Says("NONE, and nothing happens, without these (worn at all, 10 unspent).")
  static void promise13_withoutThese() {
    OneBoots o = earned(50, 50);
    int[] far = {-1, 2, FAR, DEEP};
    for (int k : far) quiet("boot " + k, o, () -> o.cobble(k), NONE);
    OneBoots empty = new OneBoots();
    quiet("no LANE", empty, () -> empty.cobble(0), NONE);
  }

  // ---- 14: undo ----------------------------------------------------------------------------

  @Says("The last ACT is UNDONE: how many more can be")
  static void promise14_eachKindOfAct() {
    OneBoots o = ruled("lane 3 5;brother 0 5;brother 0 5;wet 1 9;want 0 0 0 30", "walk 1");
    int[] first = seen(o);
    o.wear(0, 0);
    int[] put = seen(o);
    o.wear(0, 1);
    int[] given = seen(o);
    o.hour();
    int[] hour = seen(o);
    o.cobble(0);
    int[] cobbled = seen(o);
    o.off(0);
    due("off", o.undo(), 4);
    sameAs("off", o, cobbled);
    due("cobble", o.undo(), 3);
    sameAs("cobble", o, hour);
    due("hour", o.undo(), 2);
    sameAs("hour", o, given);
    due("given over", o.undo(), 1);
    sameAs("given over", o, put);
    due("put on", o.undo(), 0);
    sameAs("put on", o, first);
  }

  @Says("The last ACT is UNDONE: how many more can be")
  static void promise14_overTheEndOfADay() {
    OneBoots o = ruled("lane 3 5;brother 0 5;wet 1 9;wet 2 9", "walk 1");
    o.wear(0, 0);
    hours(o, 23);
    int[] before = seen(o);
    o.hour();
    due("DAY 1", o.count(8), 1);
    due("undo", o.undo(), 19);
    before[12] = 19;
    sameAs("HOUR 23", o, before);
    due("FROZEN again", o.brother(0, 4), 1);
  }

  @Says("The last 20 can be UNDONE, the last first.")
  static void promise14_theLast20() {
    OneBoots o = on("lane 3 5;brother 0 5");
    hours(o, 19);
    due("19", o.count(12), 19);
    o.hour();
    due("20", o.count(12), 20);
    o.hour();
    due("20 of 21", o.count(12), 20);
    for (int left = 19; left >= 0; left--) due("undo", o.undo(), left);
    due("the first HOUR can't be", o.count(7), 1);
    due("none can", o.undo(), NONE);
    hours(o, 50);
    for (int i = 0; i < 20; i++) o.undo();
    due("30 are left", o.count(7) + 24 * o.count(8), 31);
  }

  @Says("The last 20 can be UNDONE, the last first.")
  static void promise14_actsBehindAnUndo() {
    OneBoots o = on("lane 3 5;brother 0 5");
    hours(o, 25);
    for (int i = 0; i < 5; i++) o.undo();
    due("15", o.count(12), 15);
    o.wear(0, 0);
    due("16", o.count(12), 16);
    hours(o, 10);
    due("20", o.count(12), 20);
    for (int left = 19; left >= 10; left--) due("undo", o.undo(), left);
    due("HOUR 20", o.count(7), 20);
    due("he wears it", o.boot(0, 0), 0);
    due("put on", o.undo(), 9);
    due("nobody wears it", o.boot(0, 0), NONE);
    due("an HOUR ahead of it", o.undo(), 8);
    due("HOUR 19", o.count(7), 19);
  }

  @Says("NONE, and nothing happens: none can.")
  static void promise14_noneCan() {
    OneBoots empty = new OneBoots();
    quiet("no LANE", empty, empty::undo, NONE);
    OneBoots o = ruled("lane 3 5;brother 0 5", "walk 1");
    quiet("no ACT", o, o::undo, NONE);
    o.hour();
    due("one", o.undo(), 0);
    quiet("no more", o, o::undo, NONE);
    o.hour();
    tellLane(o, "lane 3 5;brother 0 5");
    quiet("another LANE", o, o::undo, NONE);
  }

  @Says("ACTS: an HOUR; PUT ON")
  static void promise14_whatIsNoAct() {
    OneBoots o = ruled("lane 3 5;brother 0 5;brother 1 9", "walk 1");
    o.hour();
    o.seed(9);
    o.print(0, 0, 0, true);
    o.image(1);
    o.force(NONE);
    tellRule(o, "walk 0");
    o.feed(1, 2, 3, 4, 5);
    o.wear(0, 1);
    o.off(0);
    o.cobble(0);
    due("one ACT", o.count(12), 1);
    due("undo", o.undo(), 0);
    due("x stays", o.count(13), 9);
    due("PRINTS stay", o.count(11), 1);
    due("the RULE IN FORCE stays", o.count(6), NONE);
    due("RULES stay", o.count(5), 2);
    due("the TAPE stays", o.count(14), 20);
    due("HOUR 0", o.count(7), 0);
  }
}
