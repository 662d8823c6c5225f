/** The edges of promises 1 to 6: a new object, the TAPE, the languages of the LANE and of the RULES, FAULTS. */
final class EdgesOfTexts extends Edge {
  private static final String TWO = "lane 2 0";
  private static final String ONE = "lane 2 0;brother 0 0";

  // ---- 1: a new object ---------------------------------------------------------------------

  @Says("No LANE, no RULES, none IN FORCE.")
  static void promise01_noLane() {
    OneBoots o = new OneBoots();
    due("PLACES", o.count(0), 0);
    due("the boots' SIZE", o.count(1), NONE);
    due("BROTHERS", o.count(2), 0);
    due("SOLE", o.count(15), NONE);
    due("hour", o.hour(), NONE);
    due("brother", o.brother(0, 0), NONE);
    due("boot", o.boot(0, 1), -2);
    due("wet", o.wet(0), NONE);
  }

  @Says("No LANE, no RULES, none IN FORCE.")
  static void promise01_noRulesNoneInForce() {
    OneBoots o = new OneBoots();
    due("RULES", o.count(5), 0);
    due("force 0", o.force(0), -2);
    due("IN FORCE", o.count(6), NONE);
    due("which was", o.force(NONE), NONE);
  }

  @Says("No LANE, no RULES, none IN FORCE.")
  static void promise01_allElseIsAtItsBegin() {
    OneBoots o = new OneBoots();
    for (int what = 7; what <= 14; what++) due("count " + what, o.count(what), 0);
    due("undo", o.undo(), NONE);
    for (int k = 0; k < 4; k++) due("back " + k, o.back(k), NONE);
  }

  @Says("The constants: `NONE = -1`: None.")
  static void promise01_noneIsMinus1() {
    due("NONE", OneBoots.NONE, -1);
  }

  @Says("No LANE, no RULES, none IN FORCE.")
  static void promise01_objectsShareNothing() {
    int[] fresh = seen(new OneBoots());
    OneBoots first = ruled(ONE, "walk 1");
    first.seed(5);
    first.image(0);
    first.feed(1, 2, 3, 4, 5);
    sameAs("a second object", new OneBoots(), fresh);
    due("its images", new OneBoots().back(0), NONE);
    due("its RULES", new OneBoots().force(0), -2);
  }

  // ---- 2: feed -----------------------------------------------------------------------------

  @Says("Twenty bytes come behind the TAPE, of each number the highest first: how many it has")
  static void promise02_twentyBytesTheHighestFirst() {
    OneBoots o = new OneBoots();
    due("'lane 3 7;brother 2 5'", o.feed(0x6c616e65, 0x20332037, 0x3b62726f, 0x74686572, 0x20322035), 20);
    due("lane", o.lane(), 1);
    due("PLACES", o.count(0), 3);
    due("SIZE", o.count(1), 7);
    due("home", o.brother(0, 1), 2);
    due("his SIZE", o.brother(0, 2), 5);
  }

  @Says("Twenty bytes come behind the TAPE, of each number the highest first: how many it has")
  static void promise02_bytesComeBehindThoseThereAre() {
    OneBoots o = new OneBoots();
    due("first", o.feed(0x6c616e65, 0x20332037, 0x3b62726f, 0x74686572, 0x20322035), 20);
    o.end(8);
    // ";brother 1 6        " behind "lane 3 7"
    due("second", o.feed(0x3b62726f, 0x74686572, 0x20312036, 0x20202020, 0x20202020), 28);
    due("lane", o.lane(), 1);
    due("home", o.brother(0, 1), 1);
  }

  @Says("Twenty bytes come behind the TAPE, of each number the highest first: how many it has")
  static void promise02_bytesOf0AndOf255Count() {
    OneBoots o = new OneBoots();
    due("0", o.feed(0, 0, 0, 0, 0), 20);
    due("255", o.feed(-1, -1, -1, -1, -1), 40);
    due("so many", o.count(14), 40);
    due("0 can't stand there", o.lane(), fault(0, 0));
    laneFault("lane 2 0~" + (char) 0, 0);
    laneFault("lane 2 0~" + (char) 255, 0);
    laneFault("lane 2 0~" + (char) (128 + ';') + "wet 0 0", 0);
    laneFault("lane 2~" + (char) (128 + ' ') + "0", 0);
  }

  @Says("NONE, and none comes, if it would have more than 400")
  static void promise02_400BytesAreTheMost() {
    OneBoots o = new OneBoots();
    for (int i = 1; i <= 20; i++) due("feed " + i, o.feed(i, i, i, i, i), 20 * i);
    quiet("the 21st", o, () -> o.feed(1, 1, 1, 1, 1), NONE);
  }

  @Says("NONE, and none comes, if it would have more than 400")
  static void promise02_380BytesTakeTwentyMoreBut381DoNot() {
    OneBoots o = new OneBoots();
    for (int i = 1; i <= 20; i++) o.feed(i, i, i, i, i);
    due("end 381", o.end(381), 381);
    quiet("401 is too many", o, () -> o.feed(1, 1, 1, 1, 1), NONE);
    due("end 380", o.end(380), 380);
    due("just 400", o.feed(1, 1, 1, 1, 1), 400);
  }

  @Says("NONE, and none comes, if it would have more than 400")
  static void promise02_aRefusedFeedLeavesTheBytes() {
    OneBoots o = new OneBoots();
    put(o, "lane 4 5" + times(" ", 384) + ";wet 3 1");
    due("full", o.count(14), 400);
    due("refused", o.feed(0x78787878, 0x78787878, 0x78787878, 0x78787878, 0x78787878), NONE);
    due("the text is as it was", o.lane(), 0);
    due("its last CLAUSE", o.wet(3), 1);
  }

  // ---- 3: end ------------------------------------------------------------------------------

  @Says("The TAPE has its first n bytes alone: n")
  static void promise03_theFirstNBytesAlone() {
    OneBoots o = new OneBoots();
    put(o, "lane 3 7;brother 2 5");
    due("end 8", o.end(8), 8);
    due("it has", o.count(14), 8);
    due("no BROTHER is told", o.lane(), 0);
    due("PLACES", o.count(0), 3);
  }

  @Says("The TAPE has its first n bytes alone: n")
  static void promise03_whatIsCutOffDoesNotCount() {
    // what lies behind the end would make the last sign, NUMBER or WORD another one
    String[] kept = {"walk 1 if 1<~", "walk 1 if 1>~", "walk 1 if 1=1 ~an"};
    String[] cut = {"=2", "=2", "d 1=1"};
    for (int i = 0; i < kept.length; i++) {
      OneBoots o = new OneBoots();
      String text = kept[i].replace("~", "");
      put(o, text + cut[i]);
      o.end(text.length());
      due(text, o.rule(), fault(kept[i].indexOf('~'), 0));
    }
    OneBoots word = new OneBoots();
    put(word, "walk places");
    word.end(10);
    due("walk place", word.rule(), 0);
    OneBoots number = new OneBoots();
    put(number, "lane 2 999999");
    number.end(8);
    due("lane 2 9", number.lane(), 0);
    due("SIZE", number.count(1), 9);
    ruleFault("walk 1 if 1" + times(" ", 388) + "<~", 0);
    ruleFault("walk 1 if 1" + times(" ", 388) + ">~", 0);
    laneFault("lane 2 ~" + times("1", 393), 1);
    ruleFault("~" + times("w", 400), 0);
  }

  @Says("The TAPE has its first n bytes alone: n")
  static void promise03_allOrNoneOfTheBytes() {
    OneBoots o = new OneBoots();
    due("none of none", o.end(0), 0);
    put(o, "lane 3 7");
    due("all 8", o.end(8), 8);
    due("none of 8", o.end(0), 0);
    due("it has", o.count(14), 0);
    due("the end comes first", o.lane(), fault(0, 0));
  }

  @Says("NONE, and nothing happens, if it has not so many, or n is below 0.")
  static void promise03_notSoMany() {
    OneBoots o = new OneBoots();
    quiet("1 of none", o, () -> o.end(1), NONE);
    o.feed(0x6c616e65, 0x20322033, 0x20202020, 0x20202020, 0x20202020);
    quiet("21 of 20", o, () -> o.end(21), NONE);
    quiet("far", o, () -> o.end(FAR), NONE);
    due("20 of 20", o.end(20), 20);
    o.end(8);
    quiet("9 of 8: what was cut off does not come again", o, () -> o.end(9), NONE);
    due("the bytes stay", o.lane(), 0);
  }

  @Says("NONE, and nothing happens, if it has not so many, or n is below 0.")
  static void promise03_below0() {
    OneBoots o = new OneBoots();
    o.feed(0x6c616e65, 0x20322033, 0x20202020, 0x20202020, 0x20202020);
    quiet("-1", o, () -> o.end(-1), NONE);
    quiet("deep", o, () -> o.end(DEEP), NONE);
    due("the bytes stay", o.lane(), 0);
  }

  // ---- 4: lane, what a text tells ----------------------------------------------------------

  @Says("A LANE is a text of at most 400 bytes")
  static void promise04_aTextOf400Bytes() {
    String head = ONE + times(" ", 368);
    due("head", head.length(), 388);
    OneBoots o = new OneBoots();
    due("lane", tellLane(o, head + ";brother 1 9"), 2);
    due("the 400th byte", o.brother(1, 2), 9);
    laneFault(head + ";brother 1 ~x", 0);
    laneFault(TWO + times(" ", 391) + ";~", 0);
    laneFault("~" + times("x", 400), 0);
    laneFault(times(" ", 400) + "~", 0);
  }

  @Says("CLAUSE { ; CLAUSE }")
  static void promise04_clausesAndSemicolons() {
    goodLane(TWO, 0);
    laneFault("~", 0);
    laneFault("   ~", 0);
    laneFault("~;lane 2 0", 0);
    laneFault(TWO + ";~", 0);
    laneFault(TWO + "; ~", 0);
    laneFault(TWO + ";~;wet 0 0", 0);
    laneFault(TWO + " ~wet 0 0", 0);
    laneFault(TWO + "~,wet 0 0", 0);
    laneFault(TWO + " ~0", 0);
  }

  @Says({"40 at most", "4 one CLAUSE too many"})
  static void promise04_fortyClauses() {
    goodLane(TWO + times(";wet 0 0", 39), 0);
    laneFault(TWO + times(";wet 0 0", 39) + ";~wet 0 0", 4);
    laneFault(TWO + times(";wet 0 0", 39) + "; ~wet x", 4);
    laneFault(TWO + times(";wet 0 0", 38) + ";~wat 0 0;wet 0 0", 0);
  }

  @Says("(PLACES 2 to 10, one behind the other;")
  static void promise04_placesFrom2To10() {
    laneFault("lane ~0 0", 1);
    laneFault("lane ~1 0", 1);
    laneFault("lane ~11 0", 1);
    laneFault("lane ~99999 0", 1);
    due("2", on("lane 2 0").count(0), 2);
    due("10", on("lane 10 0").count(0), 10);
    due("the last of 10", on("lane 10 0").wet(9), 0);
    due("behind the last of 10", on("lane 10 0").wet(10), NONE);
    due("behind the last of 2", on("lane 2 0").wet(2), NONE);
  }

  @Says("the boots' SIZE 0 to 9;")
  static void promise04_bootsSizeFrom0To9() {
    due("0", on("lane 2 0").count(1), 0);
    due("9", on("lane 2 9").count(1), 9);
    laneFault("lane 2 ~10", 1);
    laneFault("lane 2 ~-1", 0);
  }

  @Says({"once, the first CLAUSE)", "a second lane, sole or boots, another CLAUSE ahead of lane"})
  static void promise04_laneOnceAndFirst() {
    laneFault(TWO + ";~lane 2 0", 4);
    laneFault(TWO + ";wet 0 0; ~lane", 4);
    for (String other : new String[] {"brother 0 0", "wet 0 0", "frost 0 0", "want 0 0 0 1", "sole 1", "boots 0"}) {
      laneFault("~" + other + ";lane 2 0", 4);
      laneFault("  ~" + other, 4);
    }
  }

  @Says("brother NUMBER NUMBER (a PLACE, his home; SIZE 0 to 9)")
  static void promise04_brothersHomeAndSize() {
    OneBoots o = on("lane 3 4;brother 0 0;brother 2 9");
    due("the first PLACE", o.brother(0, 1), 0);
    due("SIZE 0", o.brother(0, 2), 0);
    due("the last PLACE", o.brother(1, 1), 2);
    due("SIZE 9", o.brother(1, 2), 9);
    laneFault("lane 3 4;brother ~3 0", 1);
    laneFault("lane 3 4;brother 0 ~10", 1);
    laneFault("lane 10 4;brother ~10 0", 1);
    goodLane("lane 10 4;brother 9 0", 1);
  }

  @Says("wet NUMBER NUMBER (a PLACE, 0 to 9;")
  static void promise04_wetFrom0To9() {
    OneBoots o = on("lane 3 4;wet 0 0;wet 2 9;wet 1 1");
    due("0", o.wet(0), 0);
    due("9", o.wet(2), 9);
    due("1", o.wet(1), 1);
    laneFault("lane 3 4;wet ~3 0", 1);
    laneFault("lane 3 4;wet 0 ~10", 1);
  }

  @Says("of one the last told, 0 without)")
  static void promise04_wetOfOnePlaceTheLastTold() {
    OneBoots o = on("lane 4 4;wet 1 5;wet 2 7;wet 1 3;wet 2 0");
    due("5, then 3", o.wet(1), 3);
    due("7, then 0", o.wet(2), 0);
    due("without", o.wet(0), 0);
    due("without", o.wet(3), 0);
    tellLane(o, "lane 4 4");
    due("of another LANE", o.wet(1), 0);
  }

  @Says("frost NUMBER NUMBER (the first, the last HOUR, 0 to 23, not below the first)")
  static void promise04_frostsHours() {
    goodLane(TWO + ";frost 0 0;frost 23 23;frost 0 23", 0);
    laneFault(TWO + ";frost ~24 24", 1);
    laneFault(TWO + ";frost 23 ~24", 1);
    laneFault(TWO + ";frost 5 ~4", 1);
    laneFault(TWO + ";frost 23 ~22", 1);
    goodLane(TWO + ";frost 5 5", 0);
    goodLane(TWO + ";frost 4 5", 0);
  }

  @Says("(a BROTHER that was told, a PLACE, an HOUR 0 to 23, PAY 1 to 50)")
  static void promise04_wantOfABrotherThatWasTold() {
    laneFault(TWO + ";want ~0 0 0 1", 1);
    laneFault(TWO + ";want ~0 0 0 1;brother 0 0", 1);
    laneFault(ONE + ";want ~1 0 0 1", 1);
    laneFault(ONE + ";want ~1 0 0 1;brother 0 0", 1);
    goodLane(ONE + ";want 0 0 0 1", 1);
    goodLane(ONE + ";brother 1 1;want 1 0 0 1", 2);
    goodLane(TWO + times(";brother 0 0", 6) + ";want 5 0 0 1", 6);
    laneFault(TWO + times(";brother 0 0", 6) + ";want ~6 0 0 1", 1);
  }

  @Says("(a BROTHER that was told, a PLACE, an HOUR 0 to 23, PAY 1 to 50)")
  static void promise04_wantsPlaceHourAndPay() {
    goodLane(ONE + ";want 0 0 0 1;want 0 1 23 50", 1);
    laneFault(ONE + ";want 0 ~2 0 1", 1);
    laneFault(ONE + ";want 0 0 ~24 1", 1);
    laneFault(ONE + ";want 0 0 0 ~0", 1);
    laneFault(ONE + ";want 0 0 0 ~51", 1);
    due("PAY 1", on(ONE + ";want 0 0 0 1").hour(), 1);
    due("PAY 50", on(ONE + ";want 0 0 0 50").hour(), 50);
  }

  @Says({"sole NUMBER (1 to 99; once at most, 30 without)", "a second lane, sole or boots"})
  static void promise04_sole() {
    due("1", on(TWO + ";sole 1").count(15), 1);
    due("99", on(TWO + ";sole 99").count(15), 99);
    due("without", on(TWO).count(15), 30);
    laneFault(TWO + ";sole ~0", 1);
    laneFault(TWO + ";sole ~100", 1);
    laneFault(TWO + ";sole 30;~sole 30", 4);
    laneFault(TWO + ";sole 1;wet 0 0;~sole", 4);
    OneBoots o = on(TWO + ";sole 7");
    tellLane(o, TWO);
    due("without, behind a LANE that told it", o.count(15), 30);
  }

  @Says({"boots NUMBER (the PLACE where both lie at first; once at most, 0 without)", "a second lane, sole or boots"})
  static void promise04_boots() {
    OneBoots o = on("lane 3 0;boots 2");
    due("left", o.boot(0, 1), 2);
    due("right", o.boot(1, 1), 2);
    due("nobody wears it", o.boot(0, 0), NONE);
    due("at PLACE 0", on("lane 3 0;boots 0").boot(1, 1), 0);
    laneFault("lane 3 0;boots ~3", 1);
    laneFault("lane 3 0;boots 0;~boots 0", 4);
    tellLane(o, "lane 3 0");
    due("without, behind a LANE that told it", o.boot(0, 1), 0);
    due("without", o.boot(1, 1), 0);
  }

  @Says({"BROTHERS 0 to 5", "a seventh BROTHER", ": how many BROTHERS;"})
  static void promise04_sixBrothers() {
    goodLane(TWO, 0);
    goodLane(TWO + times(";brother 0 0", 6), 6);
    laneFault(TWO + times(";brother 0 0", 6) + ";~brother 0 0", 4);
    laneFault(TWO + times(";brother 0 0", 6) + ";wet 0 0;~brother 9 9", 4);
    OneBoots o = on(TWO + times(";brother 0 0", 5) + ";brother 1 8");
    due("the sixth", o.brother(5, 2), 8);
  }

  @Says({"FROSTS 0 to 3", "a fifth FROST"})
  static void promise04_fourFrosts() {
    due("none", on(TWO).count(3), 0);
    due("four", on(TWO + times(";frost 1 1", 4)).count(3), 4);
    laneFault(TWO + times(";frost 0 0", 4) + ";~frost 0 0", 4);
    laneFault(TWO + times(";frost 0 0", 4) + ";wet 0 0;~frost 24 0", 4);
    // the fourth counts like the first: 9 by each foot, twice
    OneBoots o = ruled("lane 2 0;brother 0 0;wet 1 9" + times(";frost 9 9", 3) + ";frost 0 0", "walk 1");
    due("FROST of the fourth", o.ahead(0, 1, 1), 36);
  }

  @Says({"WANTS 0 to 9", "an 11th WANT (at its first byte)"})
  static void promise04_tenWants() {
    due("none", on(ONE).count(4), 0);
    due("ten", on(ONE + times(";want 0 0 0 1", 10)).count(4), 10);
    due("all ten are paid", on(ONE + times(";want 0 0 0 5", 10)).hour(), 50);
    laneFault(ONE + times(";want 0 0 0 1", 10) + ";~want 0 0 0 1", 4);
    laneFault(ONE + times(";want 0 0 0 1", 10) + ";~want 9 9 9 0", 4);
  }

  @Says("in the order told")
  static void promise04_inTheOrderTold() {
    OneBoots o = on("lane 4 5;brother 3 1;wet 0 1;brother 1 2;sole 5;brother 2 3");
    for (int b = 0; b < 3; b++) due("SIZE of " + b, o.brother(b, 2), b + 1);
    due("home of 0", o.brother(0, 1), 3);
    due("home of 1", o.brother(1, 1), 1);
    due("home of 2", o.brother(2, 1), 2);
  }

  @Says("It is DAY 0, HOUR 0; all are at home.")
  static void promise04_theFirstHour() {
    OneBoots o = on("lane 4 5;brother 3 1;brother 1 2");
    due("DAY", o.count(8), 0);
    due("HOUR", o.count(7), 0);
    due("0", o.brother(0, 0), 3);
    due("1", o.brother(1, 0), 1);
    for (int what = 3; what <= 6; what++) due("what " + what, o.brother(0, what), 0);
  }

  @Says("Blanks (32) stand between as one likes.")
  static void promise04_blanks() {
    goodLane("  lane  2  0  ;  brother  0  0  ", 1);
    goodLane("lane2 0;brother0 0;wet1 1;frost0 0;want0 0 0 1;sole1;boots0", 1);
    laneFault("lane ~20", 1);
    laneFault("~la ne 2 0", 0);
    laneFault("lane~\t2 0", 0);
    laneFault("lane 2~\n0", 0);
    laneFault(TWO + "~\r", 0);
  }

  // ---- 4: lane, FAULTS ---------------------------------------------------------------------

  @Says("FAULTS, the first along the text, 1 + 8 * its place and: 0 a byte or WORD that can't stand there")
  static void promise04_aByteOrWordThatCantStandThere() {
    laneFault("~Lane 2 0", 0);
    laneFault("~lanes 2 0", 0);
    laneFault("~lan 2 0", 0);
    laneFault("~walk 1", 0);
    laneFault("~2 0", 0);
    laneFault("lane ~x 0", 0);
    laneFault("lane ~lane 2 0", 0);
    laneFault("lane 2 ~;", 0);
    laneFault(TWO + ";~bro 0 0", 0);
    laneFault(TWO + ";~0", 0);
    laneFault(ONE + ";want 0 0 0 ~wet", 0);
    due("1 + 8 * 0 + 0", tellLane(new OneBoots(), "x"), -3);
    due("1 + 8 * 5 + 1", tellLane(new OneBoots(), "lane 1 0"), -2 - 42);
  }

  @Says("or the end (behind the last byte)")
  static void promise04_theEndBehindTheLastByte() {
    laneFault("lane~", 0);
    laneFault("lane   ~", 0);
    laneFault("lane 2~", 0);
    laneFault("lane 2 ~", 0);
    laneFault(ONE + ";want 0 0 0~", 0);
    laneFault(TWO + ";sole~", 0);
    laneFault(TWO + ";boots ~", 0);
  }

  @Says("1 a NUMBER of more digits, or not as told")
  static void promise04_aNumberOfMoreDigits() {
    goodLane("lane 00002 00000;brother 00001 00009", 1);
    laneFault("lane ~000002 0", 1);
    laneFault("lane 2 ~000000", 1);
    laneFault(TWO + ";wet ~000000 0", 1);
    laneFault("lane ~4294967298 0", 1);
    laneFault("lane ~" + times("0", 300) + "2 0", 1);
  }

  @Says("FAULTS, the first along the text")
  static void promise04_theFirstFaultAlongTheText() {
    laneFault("lane ~1 10;brother 9 9", 1);
    laneFault("lane 2 ~10;x", 1);
    laneFault("~sole 0;sole 0", 4);
    laneFault(TWO + ";wet ~9 99;lane 2 0;x", 1);
    laneFault(TWO + ";~frist 1 1;wet 9 9", 0);
  }

  @Says("Of one place the least.")
  static void promise04_ofOnePlaceTheLeast() {
    // a word that is none, ahead of lane or as the 41st: it can't stand there, and there is one too many
    laneFault("~x;lane 2 0", 0);
    laneFault(TWO + times(";wet 0 0", 39) + ";~wat 0 0", 0);
    laneFault(TWO + times(";wet 0 0", 39) + ";~", 0);
    laneFault(TWO + times(";wet 0 0", 39) + ";~;", 0);
  }

  // ---- 4: lane, the call -------------------------------------------------------------------

  @Says("The TAPE, which is empty then, is the LANE in place of the one there was")
  static void promise04_theTapeIsEmptyThen() {
    OneBoots o = new OneBoots();
    due("lane", tellLane(o, ONE), 1);
    due("bytes", o.count(14), 0);
    due("nothing is left to cut", o.end(1), NONE);
    due("again", o.lane(), fault(0, 0));
    due("in place of it", tellLane(o, "lane 5 3"), 0);
    due("PLACES", o.count(0), 5);
    due("no BROTHER any more", o.brother(0, 0), NONE);
  }

  @Says("(DAY 0, HOUR 0, no PRINTS, nothing to be UNDONE; the RULE IN FORCE and x stay)")
  static void promise04_anotherLaneBeginsAnew() {
    OneBoots o = ruled("lane 3 5;brother 0 5;wet 1 9;want 0 0 0 10;frost 1 2", "walk 1");
    o.seed(77);
    wearBoth(o, 0);
    hours(o, 26);
    o.cobble(0);
    o.print(1, 1, 1, true);
    due("acts", o.count(12), 20);
    due("lane", tellLane(o, "lane 3 5;brother 0 5"), 1);
    int[] want = {3, 5, 1, 0, 0, 1, 0, 0, 0, 0, 0, 0, 0, 77, 0, 30};
    for (int what = 0; what < 16; what++) due("count " + what, o.count(what), want[what]);
    due("undo", o.undo(), NONE);
    due("chill", o.brother(0, 3), 0);
    due("wears", o.brother(0, 5), 0);
    due("earned", o.brother(0, 6), 0);
    for (int k = 0; k < 2; k++) due("worn", o.boot(k, 2), 0);
    o.hour();
    due("the RULE IN FORCE leads him", o.brother(0, 0), 1);
  }

  @Says("-2 - its FAULT, and all stays.")
  static void promise04_withAFaultAllStays() {
    OneBoots o = ruled("lane 3 5;brother 0 5;wet 1 9;want 0 0 0 10;frost 1 2;sole 4;boots 0", "walk 1");
    o.seed(77);
    wearBoth(o, 0);
    hours(o, 26);
    o.print(1, 1, 1, true);
    int[] before = seen(o);
    // each part of the text is told anew ahead of the FAULT
    String text = "lane 9 9;brother 8 1;brother 7 2;wet 1 1;want 1 1 1 1;frost 0 23;sole 9;boots 5;~x";
    due("lane", tellLane(o, text.replace("~", "")), fault(text.indexOf('~'), 0));
    sameAs("a FAULT", o, before);
    due("undo", o.undo(), 19);
    due("HOUR", o.count(7), 1);
    due("feet by the PRINT", o.feet(0), 0);
  }

  @Says("The TAPE, which is empty then, is the LANE in place of the one there was")
  static void promise04_theTapeIsEmptyBehindAFaultToo() {
    OneBoots o = new OneBoots();
    due("FAULT", tellLane(o, "lane 1 1"), fault(5, 1));
    due("bytes", o.count(14), 0);
    due("no LANE came", o.count(0), 0);
    due("another text", tellLane(o, ONE), 1);
  }

  // ---- 5: rule, what a text tells ----------------------------------------------------------

  @Says({"RULES 0 to 5", "NONE, and nothing happens: there are 6."})
  static void promise05_sixRules() {
    OneBoots o = on(ONE);
    for (int i = 0; i < 6; i++) due("rule", tellRule(o, "walk " + i), i);
    put(o, "walk 7");
    quiet("a seventh", o, o::rule, NONE);
    o.end(3);
    quiet("a seventh with a FAULT", o, o::rule, NONE);
    o.end(0);
    quiet("an empty seventh", o, o::rule, NONE);
    due("the sixth", o.force(5), NONE);
  }

  @Says("NONE, and nothing happens: there are 6.")
  static void promise05_theSeventhStaysOnTheTape() {
    OneBoots o = new OneBoots();
    for (int i = 0; i < 6; i++) tellRule(o, "walk 0");
    put(o, ONE);
    due("a seventh", o.rule(), NONE);
    due("its bytes stay", o.lane(), 1);
  }

  @Says("The TAPE, which is empty then, is a RULE: its number; -2 - its FAULT")
  static void promise05_theTapeIsEmptyThen() {
    OneBoots o = new OneBoots();
    due("rule", tellRule(o, "walk 1"), 0);
    due("bytes", o.count(14), 0);
    due("an empty TAPE", o.rule(), fault(0, 0));
    due("FAULT", tellRule(o, "walk 1;"), fault(7, 0));
    due("bytes behind a FAULT", o.count(14), 0);
    due("RULES", o.count(5), 1);
    due("the next", tellRule(o, "walk 1"), 1);
    due("none is IN FORCE by that", o.count(6), NONE);
  }

  @Says("texts likewise, 12 CLAUSES at most")
  static void promise05_aTextOf400Bytes() {
    goodRule("walk 1" + times(" ", 394));
    due("the 400th byte", way("walk 1-" + times(" ", 392) + "2"), -1);
    ruleFault("walk 1" + times(" ", 393) + "~x", 0);
    ruleFault("walk 1" + times(" ", 393) + "-~", 0);
    ruleFault(times(" ", 400) + "~", 0);
  }

  @Says({"12 CLAUSES at most", "4 one CLAUSE too many"})
  static void promise05_twelveClauses() {
    goodRule("walk 1" + times(";walk 1", 11));
    ruleFault("walk 1" + times(";walk 1", 11) + ";~walk 1", 4);
    ruleFault("walk 1" + times(";walk 1", 11) + "; ~walk", 4);
    due("the 12th counts", way(times("walk 1 if 1 = 2;", 11) + "walk 0 - 1"), -1);
  }

  @Says("walk SUM [ if TEST ]")
  static void promise05_walkSumIfTest() {
    ruleFault("~", 0);
    ruleFault("~if 1 = 1", 0);
    ruleFault("~walks 1", 0);
    ruleFault("~Walk 1", 0);
    ruleFault("walk~", 0);
    ruleFault("walk ~if 1 = 1", 0);
    ruleFault("walk ~;walk 1", 0);
    ruleFault("walk 1 if~", 0);
    ruleFault("walk 1 if ~;walk 1", 0);
    ruleFault("walk 1 ~iff 1 = 1", 0);
    ruleFault("walk 1 ~1 = 1", 0);
    ruleFault("walk 1 ~= 1", 0);
    ruleFault("walk 1 if 1 = 1 ~if 1 = 1", 0);
    ruleFault("walk 1;~", 0);
    ruleFault("walk 1;~;walk 1", 0);
    goodRule("walk 1 if 1 = 1;walk 2");
  }

  @Says({"TEST: PART { or PART }.", "PART: FACT { and FACT }."})
  static void promise05_andBindsAheadOfOr() {
    due("1 or 0 and 0", way("walk 1 if 1=1 or 1=2 and 1=2"), 1);
    due("0 and 0 or 1", way("walk 1 if 1=2 and 1=2 or 1=1"), 1);
    due("0 or 1 and 0", way("walk 1 if 1=2 or 1=1 and 1=2"), 0);
    due("0 or 0 or 1", way("walk 1 if 1=2 or 1=2 or 1=1"), 1);
    due("1 and 1 and 0", way("walk 1 if 1=1 and 1=1 and 1=2"), 0);
    due("0 and 1 or 0 or 1 and 1", way("walk 1 if 1=2 and 1=1 or 1=2 or 1=1 and 1=1"), 1);
    ruleFault("walk 1 if 1=1 or~", 0);
    ruleFault("walk 1 if 1=1 and ~;", 0);
    ruleFault("walk 1 if 1=1 and ~or 1=1", 0);
    ruleFault("walk 1 if ~and 1=1", 0);
    ruleFault("walk 1 if 1=1 ~1=1", 0);
  }

  @Says("FACT: not FACT | [ TEST ] (these brackets are signs) | SUM SIGN SUM")
  static void promise05_notAndBrackets() {
    due("not binds ahead of and", way("walk 1 if not 1=1 and 1=2"), 0);
    due("not binds ahead of or", way("walk 1 if not 1=1 or 1=1"), 1);
    due("not not", way("walk 1 if not not 1=1"), 1);
    due("not [", way("walk 1 if not [1=2 or 1=1]"), 0);
    due("[ or ] and", way("walk 1 if [1=1 or 1=1] and 1=2"), 0);
    due("[[]]", way("walk 1 if [[1=1]]"), 1);
    String[] holds = {"1<2", "1<=2", "2=2", "2>=1", "2>1"};
    for (String h : holds) {
      due("not " + h, way("walk 1 if not " + h), 0);
      due("not not " + h, way("walk 1 if not not " + h), 1);
      for (String g : holds) {
        due(h + " and " + g, way("walk 1 if " + h + " and " + g), 1);
        due(h + " and not " + g, way("walk 1 if " + h + " and not " + g), 0);
        due("not " + h + " or not " + g, way("walk 1 if not " + h + " or not " + g), 0);
        due("not " + h + " or " + g, way("walk 1 if not " + h + " or " + g), 1);
      }
    }
    ruleFault("walk 1 if [~]", 0);
    ruleFault("walk 1 if [1=1~", 0);
    ruleFault("walk 1 if [1=1~;walk 1", 0);
    ruleFault("walk 1 if 1=1~]", 0);
    ruleFault("walk 1 if [1~]=1", 0);
    ruleFault("walk 1 if not~", 0);
    ruleFault("walk 1 if not ~;", 0);
    ruleFault("walk ~[1]", 0);
    ruleFault("walk 1 if 1 = ~[1]", 0);
    ruleFault("walk 1 if 1 = ~not 1", 0);
    ruleFault("walk 1 if ~(1=1)", 0);
  }

  @Says("SIGN one of < <= = >= >.")
  static void promise05_signs() {
    int[][] so = {{1, 0, 0}, {1, 1, 0}, {0, 1, 0}, {0, 1, 1}, {0, 0, 1}};
    String[] signs = {"<", "<=", "=", ">=", ">"};
    for (int i = 0; i < 5; i++) {
      due("1 " + signs[i] + " 2", way("walk 1 if 1" + signs[i] + "2"), so[i][0]);
      due("2 " + signs[i] + " 2", way("walk 1 if 2" + signs[i] + "2"), so[i][1]);
      due("3 " + signs[i] + " 2", way("walk 1 if 3 " + signs[i] + " 2"), so[i][2]);
    }
    ruleFault("walk 1 if 1~", 0);
    ruleFault("walk 1 if 1 ~and 1=1", 0);
    ruleFault("walk 1 if 1 < ~= 2", 0);
    ruleFault("walk 1 if 1 <~> 2", 0);
    ruleFault("walk 1 if 1 =~= 2", 0);
    ruleFault("walk 1 if 1 =~> 2", 0);
    ruleFault("walk 1 if 1 ~!= 2", 0);
    ruleFault("walk 1 if 1 < 2 ~< 3", 0);
    ruleFault("walk 1 if 1 <~", 0);
    ruleFault("walk 1 if 1 <=~", 0);
  }

  @Says({"SUM: TERM { (+ or -) TERM }.", "TERM: VALUE { (* or / or %) VALUE }."})
  static void promise05_sumsAndTerms() {
    String[] so = {"2+3*4=14", "2*3+4=10", "9-4-3=2", "9-4+3=8", "7*8/3=18", "7/3*8=16", "17%7*2=6", "2*17%7=6",
        "100/5/2=10", "9-2*3-1=2", "1+2+3+4*5*6+7=133", "3-5<0", "0-5+5=0", "1=3-2"};
    for (String s : so) due(s, way("walk 1 if " + s), 1);
    ruleFault("walk ~-1", 0);
    ruleFault("walk ~+1", 0);
    ruleFault("walk 1+~", 0);
    ruleFault("walk 1+~+1", 0);
    ruleFault("walk 1*~-1", 0);
    ruleFault("walk 1~^1", 0);
    ruleFault("walk 1 ~1", 0);
    ruleFault("walk 1-~;", 0);
  }

  @Says("VALUE: NUMBER (1 to 5 digits, as far as digits go on)")
  static void promise05_numbersOf1To5Digits() {
    goodRule("walk 9");
    goodRule("walk 99999");
    due("all five", way("walk 1 if 99999-99998=1 and 10000>9999"), 1);
    due("00001", way("walk 00001"), 1);
    ruleFault("walk ~100000", 1);
    ruleFault("walk ~000000", 1);
    ruleFault("walk 1 if 1=~123456", 1);
    ruleFault("walk ~" + times("9", 395), 1);
    ruleFault("walk 12345 ~6", 0);
    goodRule("walk 1if 1=1");
    ruleFault("walk 1~x", 0);
  }

  @Says("WORDS (small letters, as far as these go on) of a BROTHER: brother, place, home, size, hour, day, goal")
  static void promise05_wordsAsFarAsSmallLettersGo() {
    ruleFault("walk ~places", 0);
    ruleFault("walk ~plac", 0);
    ruleFault("walk ~Place", 0);
    ruleFault("walk place~X", 0);
    ruleFault("walk place~1", 0);
    ruleFault("walk place~_", 0);
    ruleFault("walk ~placeif 1=1", 0);
    ruleFault("walk place ~place", 0);
    for (String none : new String[] {"walk", "if", "not", "and", "or", "lane", "want", "sole", "a", "z", "earned"}) {
      ruleFault("walk ~" + none, 0);
      ruleFault("walk 1 if 1=~" + none, 0);
    }
    goodRule("walk place+home");
  }

  @Says("brother, place, home, size, hour, day, goal (the PLACE of his next WANT), pay (of that), until (HOURS till it), "
      + "wet (of his PLACE), frost (1, or 0), boots (how many he wears), chill, others (at his PLACE), lying (boots that lie there).")
  static void promise05_eachWord() {
    String lane = "lane 6 5;brother 0 1;brother 2 5;brother 2 7;wet 2 9;frost 0 1;want 1 4 3 30;want 1 1 5 8;boots 2";
    String[] so = {"brother=1", "place=2", "home=2", "size=5", "hour=0", "day=0", "goal=4", "pay=30", "until=3", "wet=9",
        "frost=1", "boots=0", "chill=0", "others=1", "lying=2"};
    for (String s : so) holds(lane, 1, s, true);
    String[] of0 = {"brother=0", "place=0", "home=0", "size=1", "goal=0", "pay=0", "until=0", "wet=0", "others=0", "lying=0"};
    for (String s : of0) holds(lane, 0, s, true);
  }

  @Says("day, goal (the PLACE of his next WANT), pay (of that), until (HOURS till it)")
  static void promise05_wordsLaterOn() {
    OneBoots o = on("lane 6 5;brother 2 5;brother 0 5;want 1 1 9 9;want 0 4 3 30;want 0 5 20 7;wet 3 4");
    force(o, "walk 0");
    hours(o, 4);
    force(o, "walk 1 if goal=5 and pay=7 and until=16 and hour=4 and day=0");
    due("his second, the third of all", o.ahead(0, 1, 0), 3);
    force(o, "walk 1 if place<3;walk 1 if chill=16");
    due("8 an HOUR", o.ahead(0, 2, 0), 3);
    due("CHILL 16 behind the second", o.ahead(0, 3, 0), 4);
    due("his brother comes to PLACE 3 behind three", o.ahead(1, 4, 0), 3);
    due("and has CHILL 16 behind two more", o.ahead(1, 5, 0), 4);
    o.force(0);
    hours(o, 44);
    force(o, "walk day-1");
    due("DAY 2", o.count(8), 2);
    due("day is 2", o.ahead(0, 1, 0), 3);
    due("two HOURS ahead of it", tellUndo(o, 2), 1);
  }

  /** How far he walks now, some ACTS back. */
  private static int tellUndo(OneBoots o, int n) {
    for (int i = 0; i < n; i++) o.undo();
    return o.ahead(0, 1, 0) - o.brother(0, 0) + 1;
  }

  @Says("boots (how many he wears), chill, others (at his PLACE), lying (boots that lie there).")
  static void promise05_wordsOfBoots() {
    OneBoots o = on("lane 6 5;brother 2 5;brother 2 4;boots 2");
    force(o, "walk boots*10+lying-11");
    due("0 and 2", o.ahead(0, 1, 0), 1);
    o.wear(1, 0);
    due("1 and 1", o.ahead(0, 1, 0), 2);
    due("his brother: 0 and 1", o.ahead(1, 1, 0), 1);
    o.wear(0, 0);
    due("2 and 0", o.ahead(0, 1, 0), 3);
    o.off(0);
    o.wear(1, 1);
    due("0 and 1", o.ahead(0, 1, 0), 1);
  }

  @Says("/ is towards 0, % its rest, both 0 by 0")
  static void promise05_divisionTowards0() {
    // no VALUE is below 0, so only what has gone round is
    String least = "32768*32768*32768*32768*8";
    due("7/2", way("walk 1 if 7/2=3 and 7%2=1"), 1);
    due("1/2", way("walk 1 if 1/2=0 and 1%2=1"), 1);
    due("towards 0", way("walk 1 if " + least + "/7*7-" + least + "=1"), 1);
    due("its rest is below 0", way("walk 1 if " + least + "%7=0-1"), 1);
    due("by 1", way("walk 1 if " + least + "/1=" + least + " and 7%1=0"), 1);
  }

  @Says("both 0 by 0")
  static void promise05_divisionBy0() {
    String[] so = {"5/0=0", "5%0=0", "0/0=0", "0%0=0", "5/brother=0", "5%brother=0", "7-5/0=7", "7+5%0=7", "5/0*3=0"};
    for (String s : so) due(s, way("walk 1 if " + s), 1);
    String least = "32768*32768*32768*32768*8";
    due("the least by 0", way("walk 1 if " + least + "/0=0 and " + least + "%0=0"), 1);
    due("walk 5/0", way("walk 5/0"), 0);
  }

  @Says("all goes round in 64 bits.")
  static void promise05_roundIn64Bits() {
    String least = "32768*32768*32768*32768*8";
    due("2 to the 63rd is below 0", way("walk " + least), -1);
    due("less 1 is above 0", way("walk " + least + "-1"), 1);
    due("twice it is 0", way("walk " + least + "*2"), 0);
    due("2 to the 31st is above 0", way("walk 32768*65536"), 1);
    due("2 to the 32nd is above 0", way("walk 65536*65536"), 1);
    due("2 to the 62nd", way("walk 32768*32768*32768*32768*4"), 1);
    due("by sums, too", way("walk 1 if " + least + "+" + least + "=0"), 1);
    due("compared in 64 bits", way("walk 1 if 65536*65536>1"), 1);
  }

  @Says("Blanks (32) stand between as one likes.")
  static void promise05_blanks() {
    goodRule("   walk   1   +   2   if   [   1   <=   2   ]   and   not   1   >   2   ;   walk   3   ");
    goodRule("walk1+2if[1<=2]and not 1>2;walk3");
    goodRule("walk place-home if[place<home]or[home<place]");
    ruleFault("walk~\t1", 0);
    ruleFault("walk 1~\n", 0);
    ruleFault("walk 1 if 1=1~\r", 0);
    ruleFault("walk ~pla ce", 0);
    ruleFault("walk 1 ~i f 1=1", 0);
  }

  @Says({"[ and not lie within one another 10 deep at most", "2 too deep (at the sign that opens, or the word not)"})
  static void promise05_tenDeep() {
    goodRule("walk 1 if " + times("[", 10) + "1=1" + times("]", 10));
    goodRule("walk 1 if " + times("not ", 10) + "1=1");
    ruleFault("walk 1 if " + times("[", 10) + "~[1=1" + times("]", 11), 2);
    ruleFault("walk 1 if " + times("not ", 10) + "~not 1=1", 2);
    ruleFault("walk 1 if " + times("not[", 5) + "~not 1=1" + times("]", 5), 2);
    ruleFault("walk 1 if " + times("[not ", 5) + "~[1=1]" + times("]", 5), 2);
    ruleFault("walk 1 if " + times("[", 10) + "~[", 2);
    ruleFault("walk 1 if " + times("[", 10) + "~not", 2);
    due("it holds", way("walk 1 if " + times("not[", 4) + "[[1=1]]" + times("]", 4)), 1);
    due("10 times not", way("walk 1 if " + times("not ", 10) + "1=1"), 1);
    due("9 times not", way("walk 1 if " + times("not ", 9) + "1=1"), 0);
  }

  @Says("[ and not lie within one another 10 deep at most")
  static void promise05_deepWithOrAndAndAtEachLevel() {
    // each level waits with both, and what lies innermost decides
    String open = times("1=2 or 1=1 and[", 9);
    due("it holds", way("walk 1 if " + open + "5-2*2=1" + times("]", 9)), 1);
    due("it does not", way("walk 1 if " + open + "1=2" + times("]", 9)), 0);
    due("not", way("walk 1 if " + open + "not 1=2" + times("]", 9)), 1);
  }

  @Says("[ and not lie within one another 10 deep at most")
  static void promise05_whatIsClosedIsNotDeep() {
    String ten = times("[", 10) + "1=1" + times("]", 10);
    goodRule("walk 1 if " + ten + " and " + ten + " or " + ten);
    goodRule("walk 1 if " + times("not ", 10) + "1=1 and " + times("not ", 10) + "1=1");
    goodRule("walk 1 if " + times("[", 9) + "[1=1]and[1=1]" + times("]", 9));
    ruleFault("walk 1 if " + times("[", 9) + "[1=1]and[~[1=1]]" + times("]", 9), 2);
    goodRule("walk 1 if [1=1]" + times(" and [1=1]", 11));
    goodRule("walk 1 if " + ten + ";walk 1 if " + ten);
  }

  @Says({"at most 60 VALUES (of SUMS) and FACTS made of a SIGN, together.",
      "3 one VALUE or FACT too many (at its first byte; of a FACT at its SIGN)"})
  static void promise05_sixtyValuesAndFacts() {
    goodRule("walk 1" + times("+1", 59));
    ruleFault("walk 1" + times("+1", 59) + "+~1", 3);
    ruleFault("walk 1" + times("+1", 59) + "*~place", 3);
    goodRule("walk 1" + times("+1", 56) + " if 1=1");
    ruleFault("walk 1" + times("+1", 57) + " if 1=~1", 3);
    ruleFault("walk 1" + times("+1", 58) + " if 1~=1", 3);
    ruleFault("walk 1" + times("+1", 58) + " if 1~>=1", 3);
    ruleFault("walk 1" + times("+1", 59) + " if ~1=1", 3);
  }

  @Says("at most 60 VALUES (of SUMS) and FACTS made of a SIGN, together.")
  static void promise05_sixtyInAllClausesTogether() {
    goodRule("walk 1" + times("+1", 29) + ";walk 1" + times("+1", 29));
    ruleFault("walk 1" + times("+1", 29) + ";walk 1" + times("+1", 29) + "+~1", 3);
    ruleFault("walk 1" + times("+1", 59) + ";walk ~1", 3);
    // brackets and not are no FACTS made of a SIGN
    goodRule("walk 1 if 1=1" + times(" and[not 1=1]", 18) + ";walk 1+1");
    ruleFault("walk 1 if 1=1" + times(" and[not 1=1]", 18) + ";walk 1+1+~1", 3);
    OneBoots o = new OneBoots();
    for (int i = 0; i < 2; i++) due("each RULE by itself", tellRule(o, "walk 1" + times("+1", 59)), i);
  }

  // ---- 5: rule, FAULTS ---------------------------------------------------------------------

  @Says("0 a byte or WORD that can't stand there, or the end (behind the last byte)")
  static void promise05_aByteThatCantStandThere() {
    ruleFault("~;", 0);
    ruleFault("~1", 0);
    ruleFault("walk ~" + (char) 0, 0);
    ruleFault("walk 1~" + (char) 200, 0);
    ruleFault("walk 1~" + (char) (128 + ' '), 0);
    ruleFault("walk ~" + (char) (128 + '1'), 0);
    ruleFault("walk ~" + (char) (128 + 'a'), 0);
    ruleFault("walk ~<", 0);
    ruleFault("walk ~]", 0);
    ruleFault("walk 1 if 1=1 ~walk 1", 0);
    ruleFault("walk 1 if   ~", 0);
    ruleFault("walk 1 if [1=1  ~", 0);
  }

  @Says("FAULTS, the first along the text")
  static void promise05_theFirstFaultAlongTheText() {
    ruleFault("walk ~123456;walk x", 1);
    ruleFault("walk ~x+123456", 0);
    ruleFault("walk 1" + times("+1", 59) + "+~1 if " + times("[", 11) + ";", 3);
    ruleFault("walk 1 if " + times("[", 10) + "~[123456=x", 2);
    ruleFault("walk 1 if 1~;" + times("walk 1;", 13), 0);
  }

  @Says("Of one place the least.")
  static void promise05_ofOnePlaceTheLeast() {
    String sixty = "walk 1" + times("+1", 59);
    ruleFault(sixty + "+~x", 0);
    ruleFault(sixty + "+~;", 0);
    ruleFault(sixty + "+~", 0);
    ruleFault(sixty + "+~123456", 1);
    ruleFault(sixty + " if ~x=1", 0);
    ruleFault(sixty + " if ~123456=1", 1);
    ruleFault("walk 1" + times("+1", 58) + " if 1~;", 0);
    ruleFault("walk 1" + times(";walk 1", 11) + ";~wulk 1", 0);
    ruleFault("walk 1" + times(";walk 1", 11) + ";~", 0);
    ruleFault("walk 1" + times(";walk 1", 11) + ";~walks", 0);
  }

  @Says("The TAPE, which is empty then, is a RULE: its number")
  static void promise05_aShorterRuleBehindALongerOne() {
    OneBoots o = on("lane 3 5;brother 1 5");
    tellRule(o, "walk 0 if 1=2;walk 1 if 1=1;walk 1;walk 1");
    tellRule(o, "walk 1 if 1=2");
    due("the longer", ruleWay(o, 0), 1);
    due("of the longer nothing is left in the shorter", ruleWay(o, 1), 0);
    tellRule(o, "walk 1 if 1=2;walk 0-1 if 2=2;x");
    due("nor of one with a FAULT", tellRule(o, "walk 1 if 1=2;walk 1 if 2=1"), 2);
    due("none holds", ruleWay(o, 2), 0);
    due("the longer still", ruleWay(o, 0), 1);
  }

  private static int ruleWay(OneBoots o, int rule) {
    o.force(rule);
    return o.ahead(0, 1, 0) - 1;
  }

  // ---- 6: force ----------------------------------------------------------------------------

  @Says("A RULE is IN FORCE (NONE: none): which was")
  static void promise06_whichWas() {
    OneBoots o = new OneBoots();
    for (int i = 0; i < 6; i++) tellRule(o, "walk " + i);
    due("first", o.force(0), NONE);
    due("the last", o.force(5), 0);
    due("itself", o.force(5), 5);
    due("none", o.force(NONE), 5);
    due("none again", o.force(NONE), NONE);
    due("IN FORCE", o.count(6), NONE);
  }

  @Says("-2, and nothing happens, if there is none such.")
  static void promise06_noneSuch() {
    OneBoots o = ruled(ONE, "walk 1");
    quiet("1 of 1", o, () -> o.force(1), -2);
    quiet("-2", o, () -> o.force(-2), -2);
    quiet("far", o, () -> o.force(FAR), -2);
    quiet("deep", o, () -> o.force(DEEP), -2);
    for (int i = 1; i < 6; i++) tellRule(o, "walk 0");
    quiet("6 of 6", o, () -> o.force(6), -2);
    due("still", o.count(6), 0);
    due("no act", o.count(12), 0);
  }

  @Says("A RULE is IN FORCE (NONE: none): which was")
  static void promise06_theRuleThatLeads() {
    OneBoots o = on("lane 3 5;brother 1 5;want 0 2 5 1");
    tellRule(o, "walk 0");
    tellRule(o, "walk 0-1");
    due("without towards his goal", o.ahead(0, 1, 0), 2);
    o.force(0);
    due("by the first", o.ahead(0, 1, 0), 1);
    o.force(1);
    due("by the second", o.ahead(0, 1, 0), 0);
    o.force(2);
    due("a refused one changes nothing", o.ahead(0, 1, 0), 0);
    o.force(NONE);
    due("without again", o.ahead(0, 1, 0), 2);
  }
}
