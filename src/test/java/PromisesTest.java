/** Each promise by hand: ordinary inputs, the edges that the document names, wrong inputs. */
public final class PromisesTest {
  private static final int NONE = OneBoots.NONE;
  private static final int FAR = Integer.MAX_VALUE;
  private static final int DEEP = Integer.MIN_VALUE;
  private static final String LANE = "lane 5 6;brother 0 4;brother 4 6;brother 1 8;wet 2 8;wet 3 5;wet 1 2;frost 2 3;"
      + "want 0 3 3 10;want 1 2 2 7;want 1 0 6 9;want 2 3 4 5;sole 4;boots 0";
  private static int wrong = 0;
  private static int asked = 0;

  private static void due(String what, int got, int want) {
    asked++;
    if (got != want) {
      wrong++;
      System.out.println(what + " answered " + got + ", due is " + want);
    }
  }

  private static int put(OneBoots o, String text) {
    int answer = 0;
    for (int from = 0; from < text.length(); from += 20) {
      int[] v = new int[5];
      for (int i = 0; i < 20; i++) {
        v[i / 4] = v[i / 4] << 8 | (from + i < text.length() ? text.charAt(from + i) : 0);
      }
      answer = o.feed(v[0], v[1], v[2], v[3], v[4]);
    }
    return answer == NONE ? NONE : o.end(text.length());
  }

  private static int tellLane(OneBoots o, String text) {
    put(o, text);
    return o.lane();
  }

  private static int tellRule(OneBoots o, String text) {
    put(o, text);
    return o.rule();
  }

  private static OneBoots on(String lane) {
    OneBoots o = new OneBoots();
    int answer = tellLane(o, lane);
    if (answer < 0) due("lane " + lane, answer, 0);
    return o;
  }

  private static OneBoots ruled(String lane, String rule) {
    OneBoots o = on(lane);
    due("rule " + rule, tellRule(o, rule), 0);
    o.force(0);
    return o;
  }

  private static void hours(OneBoots o, int n) {
    for (int i = 0; i < n; i++) o.hour();
  }

  private static int fault(int place, int kind) {
    return -2 - (1 + 8 * place + kind);
  }

  private static void laneFault(String text, int place, int kind) {
    due("lane '" + text + "'", tellLane(new OneBoots(), text), fault(place, kind));
  }

  private static void ruleFault(String text, int place, int kind) {
    due("rule '" + text + "'", tellRule(new OneBoots(), text), fault(place, kind));
  }

  private static void goodRule(String text) {
    due("rule '" + text + "'", tellRule(new OneBoots(), text), 0);
  }

  private static String times(String s, int n) {
    return s.repeat(n);
  }

  public static void main(String[] args) {
    aNewObject();
    feedAndEnd();
    lane();
    laneFaults();
    ruleFaults();
    ruleLimits();
    ruleAndForce();
    words();
    sums();
    state();
    hour();
    frozenAndDays();
    acts();
    undo();
    ahead();
    lending();
    relay();
    prints();
    cobbler();
    second();
    winters();
    count();
    images();
    System.out.println(asked + " answers asked, " + wrong + " wrong");
    if (wrong != 0) System.exit(1);
  }

  // ---- 1 -----------------------------------------------------------------------------------
  private static void aNewObject() {
    OneBoots o = new OneBoots();
    int[] counts = {0, NONE, 0, 0, 0, 0, NONE, 0, 0, 0, 0, 0, 0, 0, 0, NONE};
    for (int i = 0; i < 16; i++) due("new count " + i, o.count(i), counts[i]);
    due("new force", o.force(0), -2);
    due("new brother", o.brother(0, 0), NONE);
    due("new boot", o.boot(0, 0), -2);
    due("new wet", o.wet(0), NONE);
    due("new hour", o.hour(), NONE);
    due("new wear", o.wear(0, 0), -2);
    due("new off", o.off(0), NONE);
    due("new cobble", o.cobble(0), NONE);
    due("new undo", o.undo(), NONE);
    due("new ahead", o.ahead(0, 0, 0), NONE);
    due("new lend", o.lend(1, 0), -2);
    due("new worth", o.worth(0, 1), NONE);
    due("new bids", o.bids(1), NONE);
    due("new relay", o.relay(1, 0), -3);
    due("new relay far", o.relay(1, 4), -3);
    due("new print", o.print(0, 0, 0, true), -2);
    due("new print NONE", o.print(NONE, 0, 0, true), 0);
    due("new feet", o.feet(0), -3);
    due("new look", o.look(0, 0), NONE);
    due("new cobbler", o.cobbler(0, 1, 1, 1, 1, 0), -2);
    due("new second", o.second(9, 1, 0), -100000);
    due("new winters", o.winters(1, 1, 1, 0), NONE);
    due("new back", o.back(0), NONE);
    due("NONE", OneBoots.NONE, -1);
  }

  // ---- 2, 3 --------------------------------------------------------------------------------
  private static void feedAndEnd() {
    OneBoots o = new OneBoots();
    due("end of none", o.end(0), 0);
    due("end past none", o.end(1), NONE);
    for (int i = 1; i <= 20; i++) due("feed " + i, o.feed(i, 0, 0, 0, 0), 20 * i);
    due("feed past 400", o.feed(0, 0, 0, 0, 0), NONE);
    due("still 400", o.count(14), 400);
    due("end below", o.end(-1), NONE);
    due("end deep", o.end(DEEP), NONE);
    due("end 401", o.end(401), NONE);
    due("end 400", o.end(400), 400);
    due("end 381", o.end(381), 381);
    due("feed to 401", o.feed(0, 0, 0, 0, 0), NONE);
    due("end 380", o.end(380), 380);
    due("end goes no way back", o.end(381), NONE);
    due("feed to 400", o.feed(0, 0, 0, 0, 0), 400);
    due("end 0", o.end(0), 0);
    // "lane 2 3;brother 1 3" is twenty bytes, the highest of a number first
    due("bytes", o.feed(0x6c616e65, 0x20322033, 0x3b62726f, 0x74686572, 0x20312033), 20);
    due("lane of bytes", o.lane(), 1);
    due("home of bytes", o.brother(0, 1), 1);
    due("bytes behind are cut off", tellLane(o, "lane 2 3"), 0);
    o.feed(0xffffffff, 0, 0, 0, 0);
    due("a high byte", o.lane(), fault(0, 0));
  }

  // ---- 4 -----------------------------------------------------------------------------------
  private static void lane() {
    OneBoots o = new OneBoots();
    due("lane", tellLane(o, LANE), 3);
    int[] counts = {5, 6, 3, 1, 4, 0, NONE, 0, 0, 0, 0, 0, 0, 0, 0, 4};
    for (int i = 0; i < 16; i++) due("lane count " + i, o.count(i), counts[i]);
    due("another", tellLane(o, "  lane10 9;wet 9 9;wet9 3 ; wet 0 00007"), 0);
    due("places", o.count(0), 10);
    due("sole without", o.count(15), 30);
    due("the last told", o.wet(9), 3);
    due("five digits", o.wet(0), 7);
    due("wet without", o.wet(1), 0);
    due("boots without", o.boot(1, 1), 0);
    due("least", tellLane(o, "lane 2 0;brother 0 0;brother 1 9;frost 0 0;frost 23 23;want 1 1 23 50;want 0 0 0 1;sole 99;boots 1"), 2);
    due("sole", o.count(15), 99);
    due("boots", o.boot(0, 1), 1);

    OneBoots r = ruled(LANE, "walk 1");
    r.seed(77);
    r.hour();
    r.print(1, 1, 1, false);
    put(r, "lane 2 0;");
    due("faulty", r.lane(), fault(9, 0));
    due("the TAPE is empty then", r.count(14), 0);
    due("all stays: hour", r.count(7), 1);
    due("all stays: places", r.count(0), 5);
    due("all stays: prints", r.count(11), 1);
    due("all stays: acts", r.count(12), 1);
    due("all stays: wet", r.wet(2), 8);
    hours(r, 24);
    due("lane anew", tellLane(r, "lane 3 1;brother 2 1"), 1);
    int[] anew = {3, 1, 1, 0, 0, 1, 0, 0, 0, 0, 0, 0, 0, 77, 0, 30};
    for (int i = 0; i < 16; i++) due("anew count " + i, r.count(i), anew[i]);
    due("at home", r.brother(0, 0), 2);
    due("nothing to be undone", r.undo(), NONE);
    due("empty tape", r.lane(), fault(0, 0));
  }

  private static void laneFaults() {
    laneFault("", 0, 0);
    laneFault("   ", 3, 0);
    laneFault("lane", 4, 0);
    laneFault("lane  ", 6, 0);
    laneFault("lane 1 0", 5, 1);
    laneFault("lane 11 0", 5, 1);
    laneFault("lane 2 10", 7, 1);
    laneFault("lane 000002 1", 5, 1);
    laneFault("lane 2", 6, 0);
    laneFault("lane x", 5, 0);
    laneFault("lane 2 0 0", 9, 0);
    laneFault("lane 2 0;", 9, 0);
    laneFault("lane 2 0; ", 10, 0);
    laneFault("lanes 2 0", 0, 0);
    laneFault("Lane 2 0", 0, 0);
    laneFault("lane 2,0", 6, 0);
    laneFault("lane 2 0" + (char) 0, 8, 0);
    laneFault("lane 2 0brother 0 0", 8, 0);
    laneFault("brother 0 0", 0, 4);
    laneFault(" wet", 1, 4);
    laneFault("lane 2 0;lane 2 0", 9, 4);
    laneFault("lane 2 0;brother 2 0", 17, 1);
    laneFault("lane 2 0;brother 0 10", 19, 1);
    laneFault("lane 2 0;wet 2 0", 13, 1);
    laneFault("lane 2 0;wet 0 10", 15, 1);
    laneFault("lane 2 0;frost 24 24", 15, 1);
    laneFault("lane 2 0;frost 5 4", 17, 1);
    laneFault("lane 2 0;frost 5 24", 17, 1);
    laneFault("lane 2 0;want 0 0 0 1", 14, 1);
    laneFault("lane 2 0;want 0 0 0 1;brother 0 0", 14, 1);
    laneFault("lane 2 0;brother 0 0;want 1 0 0 1", 26, 1);
    laneFault("lane 2 0;brother 0 0;want 0 2 0 1", 28, 1);
    laneFault("lane 2 0;brother 0 0;want 0 0 24 1", 30, 1);
    laneFault("lane 2 0;brother 0 0;want 0 0 0 0", 32, 1);
    laneFault("lane 2 0;brother 0 0;want 0 0 0 51", 32, 1);
    laneFault("lane 2 0;brother 0 0;want 0 0 0", 31, 0);
    laneFault("lane 2 0;sole 0", 14, 1);
    laneFault("lane 2 0;sole 100", 14, 1);
    laneFault("lane 2 0;sole 1;sole 1", 16, 4);
    laneFault("lane 2 0;boots 2", 15, 1);
    laneFault("lane 2 0;boots 0;boots 0", 17, 4);
    laneFault("lane 2 0" + times(";brother 0 0", 7), 8 + 12 * 6 + 1, 4);
    laneFault("lane 2 0" + times(";frost 0 1", 5), 8 + 10 * 4 + 1, 4);
    laneFault("lane 2 0;brother 0 0" + times(";want 0 0 0 1", 11), 20 + 13 * 10 + 1, 4);
    laneFault("lane 2 0" + times(";wet 0 0", 40), 8 + 8 * 39 + 1, 4);
    laneFault("lane 2 0" + times(";wet 0 0", 39) + ";x", 8 + 8 * 39 + 1, 0);
    laneFault("lane 2 0" + times(";wet 0 0", 39) + ";", 8 + 8 * 39 + 1, 0);
    due("40 clauses", tellLane(new OneBoots(), "lane 2 0" + times(";wet 0 0", 39)), 0);
    due("6 brothers", tellLane(new OneBoots(), "lane 2 0" + times(";brother 0 0", 6)), 6);
    due("4 frosts", tellLane(new OneBoots(), "lane 2 0" + times(";frost 0 1", 4)), 0);
    due("10 wants", tellLane(new OneBoots(), "lane 2 0;brother 0 0" + times(";want 0 0 0 1", 10)), 1);
  }

  // ---- 5, 6 --------------------------------------------------------------------------------
  private static void ruleFaults() {
    ruleFault("", 0, 0);
    ruleFault("walk", 4, 0);
    ruleFault("walks 1", 0, 0);
    ruleFault("walk x", 5, 0);
    ruleFault("walk 1;", 7, 0);
    ruleFault("walk 1 if", 9, 0);
    ruleFault("walk 1 if home = 1]", 18, 0);
    ruleFault("walk 5 %", 8, 0);
    ruleFault("walk - 1", 5, 0);
    ruleFault("walk 1 2", 7, 0);
    ruleFault("walk [1]", 5, 0);
    ruleFault("walk not", 5, 0);
    ruleFault("walk 1 if 1", 11, 0);
    ruleFault("walk 1 if 1 < = 2", 14, 0);
    ruleFault("walk 1 if 1 =< 2", 13, 0);
    ruleFault("walk 1 if 1 == 2", 13, 0);
    ruleFault("walk 1 if 1 < 2 < 3", 16, 0);
    ruleFault("walk 1 if [ 1 < 2", 17, 0);
    ruleFault("walk 1 if [ 1 ] < 2", 14, 0);
    ruleFault("walk 1 if or 1 < 2", 10, 0);
    ruleFault("walk 1 if 1 < 2 and", 19, 0);
    ruleFault("walk 1 if 1 < 2 if 1 < 2", 16, 0);
    ruleFault("walk 1 if 1 < 2 & 1 < 2", 16, 0);
    ruleFault("walk 123456", 5, 1);
    ruleFault("walk 1 123456", 7, 0);
    ruleFault("walk 1 if 1 < 000001", 14, 1);
    ruleFault("walk 1 if not not", 17, 0);
    ruleFault("lane 2 0", 0, 0);
    goodRule("walk 99999");
    goodRule("  walk1if[place<=2]or not home>=1and 2>1;walk 0  ");
  }

  private static void ruleLimits() {
    goodRule(times("walk 1;", 11) + "walk 1");
    ruleFault(times("walk 1;", 12) + "walk 1", 84, 4);
    ruleFault(times("walk 1;", 12) + "xyz", 84, 0);
    ruleFault(times("walk 1;", 12), 84, 0);
    goodRule("walk 1 if " + times("[", 10) + "1<2" + times("]", 10));
    goodRule("walk 1 if " + times("not ", 10) + "1<2");
    goodRule("walk 1 if " + times("not [", 5) + "1<2" + times("]", 5));
    goodRule("walk 1 if " + times("not ", 10) + "1<2 and " + times("not ", 10) + "1<2");
    ruleFault("walk 1 if " + times("[", 11) + "1<2" + times("]", 11), 20, 2);
    ruleFault("walk 1 if " + times("not ", 11) + "1<2", 50, 2);
    ruleFault("walk 1 if " + times("not [", 5) + "not 1<2" + times("]", 5), 35, 2);
    goodRule("walk 1" + times("+1", 59));
    ruleFault("walk 1" + times("+1", 60), 6 + 119, 3);
    ruleFault("walk 1" + times("+1", 59) + "+x", 125, 0);
    ruleFault("walk 1" + times("+1", 59) + "+123456", 125, 1);
    ruleFault("walk 1" + times("+1", 59) + ";walk 1", 130, 3);
    // 1 + 57 values, a FACT's first VALUE, its SIGN and then one too many
    ruleFault("walk 1" + times("+1", 57) + " if 1<2", 126, 3);
    // the SIGN itself is the 61st
    ruleFault("walk 1" + times("+1", 58) + " if 1<2", 127, 3);
    goodRule("walk 1" + times("+1", 56) + " if 1<2");
  }

  private static void ruleAndForce() {
    OneBoots o = new OneBoots();
    for (int i = 0; i < 6; i++) {
      due("force ahead of it", o.force(i), -2);
      due("rule " + i, tellRule(o, "walk " + i), i);
      due("the TAPE is empty then", o.count(14), 0);
      if (i == 0) {
        put(o, "walk");
        due("faulty", o.rule(), fault(4, 0));
        due("the TAPE is empty then, too", o.count(14), 0);
        due("no RULE came", o.count(5), 1);
      }
    }
    put(o, "walk 1");
    due("a seventh", o.rule(), NONE);
    due("nothing happened", o.count(14), 6);
    o.end(4);
    due("a faulty seventh", o.rule(), NONE);
    due("six", o.count(5), 6);
    due("force", o.force(5), NONE);
    due("in force", o.count(6), 5);
    due("force 6", o.force(6), -2);
    due("force -2", o.force(-2), -2);
    due("force far", o.force(FAR), -2);
    due("still", o.count(6), 5);
    due("force another", o.force(0), 5);
    due("force none", o.force(NONE), 0);
    due("force none again", o.force(NONE), NONE);
  }

  /** Who walks ahead tells whether a TEST holds. */
  private static void holds(OneBoots o, int brother, String test, boolean is) {
    int before = o.brother(brother, 0);
    due("rule", tellRule(o, "walk 1 if " + test) < 0 ? -1 : 0, 0);
    o.force(o.count(5) - 1);
    due(test, o.ahead(brother, 1, 0) - before, is ? 1 : 0);
  }

  private static void words() {
    String lane = "lane 6 5;brother 2 5;brother 2 7;brother 0 1;wet 2 9;frost 0 1;want 0 4 2 30;want 0 3 2 31;want 0 1 5 8;boots 2";
    String[] of0 = {"brother = 0", "place = 2", "home = 2", "size = 5", "hour = 0 and day = 0", "goal = 4", "pay = 30",
        "until = 2", "wet = 9", "frost = 1", "boots = 0", "chill = 0", "others = 1", "lying = 2"};
    for (String test : of0) holds(on(lane), 0, test, true);
    // BROTHER 0 has walked already when BROTHER 1 looks around
    holds(on(lane), 1, "brother = 1 and others = 0 or brother = 0", true);
    holds(on(lane), 1, "goal = home and pay = 0 and until = 0", true);
    OneBoots o = on(lane);
    o.wear(0, 0);
    holds(o, 0, "boots = 1 and lying = 1", true);
    o.wear(1, 0);
    holds(o, 0, "boots = 2 and lying = 0", true);
    o.force(NONE);
    hours(o, 3);
    holds(o, 0, "hour = 3 and goal = 1 and until = 2 and frost = 0", true);
    o.force(NONE);
    hours(o, 24);
    holds(o, 0, "day = 1", true);
    holds(o, 0, "day = 1 and place = home", false);
  }

  private static void sums() {
    String lane = "lane 3 5;brother 0 5";
    String[] so = {"2+3*4 = 14", "20-5-3 = 12", "100/7/2 = 7", "7%4*2 = 6", "1-3 < 0", "5/0 = 0", "5%0 = 0",
        "7/2*2 = 6", "1 = 1 or 1 = 2 and 1 = 3", "[1 = 1 or 1 = 2] and 1 = 1", "not 1 = 2", "not [1 = 2 or 1 = 3]", "1 <= 1", "1 >= 1",
        "2 > 1", "0-7 < 0-6", "1-8*1 = 0-7", "brother-7 = 0-7", "2*3%4 = 2", "0 = 00000"};
    for (String test : so) holds(on(lane), 0, test, true);
    String[] not = {"1 = 2", "1 > 1", "1 < 1", "not 1 = 1", "[1 = 1 or 1 = 2] and 1 = 2", "not not 1 = 2", "not 1 = 1 or 1 = 2",
        "not 1 = 1 and 1 = 1"};
    for (String test : not) holds(on(lane), 0, test, false);
    // round in 64 bits: 32768 to the 4th by 8 is the least number there is; it is towards 0, its rest below 0
    String least = "32768*32768*32768*32768*8";
    holds(on(lane), 0, least + " < 0", true);
    holds(on(lane), 0, least + " - 1 > 0", true);
    holds(on(lane), 0, least + "*2 = 0", true);
    holds(on(lane), 0, least + "%10 = 0-8", true);
    holds(on(lane), 0, least + "/7*7 + " + least + "%7 = " + least, true);
    holds(on(lane), 0, "99999*99999*99999 > 0", true);
    due("first CLAUSE that holds", ruled("lane 3 5;brother 1 5", "walk 1 if 1 = 2;walk 0-1 if 1 = 1;walk 1").ahead(0, 1, 0), 0);
    due("a CLAUSE without a TEST", ruled("lane 3 5;brother 1 5", "walk 1 if 1 = 2;walk 5;walk 0-1").ahead(0, 1, 0), 2);
    due("none holds", ruled("lane 3 5;brother 1 5", "walk 1 if 1 = 2").ahead(0, 1, 0), 1);
    due("not off the lane", ruled("lane 3 5;brother 2 5", "walk 1").ahead(0, 1, 0), 2);
    due("not off the lane", ruled("lane 3 5;brother 0 5", "walk 0-1").ahead(0, 1, 0), 0);
  }

  // ---- 7, 8, 9 -----------------------------------------------------------------------------
  private static void row(String name, OneBoots o, int brother, int... want) {
    for (int i = 0; i < want.length; i++) due(name + " brother " + brother + " " + i, o.brother(brother, i), want[i]);
  }

  private static void state() {
    OneBoots o = on(LANE);
    row("first", o, 0, 0, 0, 4, 0, 0, 0, 0, 3, NONE);
    row("first", o, 1, 4, 4, 6, 0, 0, 0, 0, 2, NONE);
    row("first", o, 2, 1, 1, 8, 0, 0, 0, 0, 3, NONE);
    due("brother 3", o.brother(3, 0), NONE);
    due("brother -1", o.brother(-1, 0), NONE);
    due("brother far", o.brother(FAR, 0), NONE);
    due("brother what", o.brother(0, -1), NONE);
    int[] boot = {NONE, 0, 0, 0, -2};
    for (int i = 0; i < 5; i++) due("boot " + i, o.boot(1, i), boot[i]);
    due("boot 2", o.boot(2, 0), -2);
    due("boot -1", o.boot(-1, 0), -2);
    due("boot what", o.boot(0, -1), -2);
    int[] wet = {0, 2, 8, 5, 0, NONE};
    for (int i = 0; i < 6; i++) due("wet " + i, o.wet(i), wet[i]);
    due("wet -1", o.wet(-1), NONE);
    due("wet far", o.wet(FAR), NONE);
  }

  // ---- 10 ----------------------------------------------------------------------------------
  private static void hour() {
    OneBoots o = on(LANE);
    due("hour 0", o.hour(), 0);
    row("h1", o, 0, 1, 0, 4, 4, 0, 0, 0, 3);
    row("h1", o, 1, 3, 4, 6, 10, 0, 0, 0, 2);
    row("h1", o, 2, 2, 1, 8, 16, 0, 0, 0, 3);
    due("hour 1", o.hour(), 0);
    due("hour 2", o.hour(), 7);
    row("h3", o, 0, 3, 0, 4, 40, 0, 0, 0, 3);
    row("h3", o, 1, 2, 4, 6, 58, 0, 0, 7, 0);
    row("h3", o, 2, 3, 1, 8, 46, 0, 0, 0, 3);
    due("hour 3", o.hour(), 10);
    row("h4", o, 0, 3, 0, 4, 60, 1, 0, 10, 0);
    row("h4", o, 1, 1, 4, 6, 66, 1, 0, 7, 0);
    row("h4", o, 2, 3, 1, 8, 66, 1, 0, 0, 3);
    due("hour 4, he is FROZEN", o.hour(), 0);
    row("h5", o, 1, 1, 4, 6, 70, 1, 0, 7, 0);
    due("count hour", o.count(7), 5);
    due("earned by all", o.count(9), 17);

    OneBoots b = on(LANE);
    b.wear(0, 0);
    b.wear(1, 0);
    hours(b, 2);
    row("both", b, 0, 2, 0, 4, 0, 0, 3, 0, 3);
    due("worn", b.boot(0, 2), 2);
    due("boots go with him", b.boot(1, 1), 2);
    due("no hole", b.boot(0, 3), 0);
    b.hour();
    due("worn in FROST", b.boot(0, 2), 4);
    due("a hole", b.boot(0, 3), 1);
    due("through the hole", b.brother(0, 3), 20);
    b.hour();
    due("he did not walk", b.boot(1, 2), 4);

    OneBoots one = on(LANE);
    one.wear(1, 0);
    hours(one, 2);
    due("one foot", one.brother(0, 3), 10);
    due("one foot's bits", one.brother(0, 5), 2);
    due("one boot worn", one.boot(1, 2), 2);
    due("the other lies", one.boot(0, 1), 0);
    due("the other is not worn", one.boot(0, 2), 0);
    due("a lane without brothers", on("lane 2 0").hour(), 0);
  }

  private static void frozenAndDays() {
    // out to PLACE 1 at once, home again in HOUR 4: chill goes by 4 there
    OneBoots o = on("lane 3 3;brother 0 2;wet 1 3;want 0 1 3 5");
    hours(o, 4);
    due("chill away", o.brother(0, 3), 24);
    due("paid", o.brother(0, 6), 5);
    o.hour();
    due("home", o.brother(0, 0), 0);
    due("chill at home", o.brother(0, 3), 20);
    hours(o, 6);
    due("0 at least", o.brother(0, 3), 0);
    due("goal at home", o.brother(0, 7), 0);

    OneBoots f = ruled("lane 3 3;brother 0 2;wet 1 9;wet 2 9;boots 0", "walk 1");
    f.wear(0, 0);
    hours(f, 6);
    due("chill 54", f.brother(0, 3), 54);
    due("worn at the lane's end", f.boot(0, 2), 2);
    f.hour();
    due("chill 63", f.brother(0, 3), 63);
    due("FROZEN", f.brother(0, 4), 1);
    hours(f, 16);
    due("99 at most", f.brother(0, 3), 99);
    due("hour 23", f.count(7), 23);
    due("last hour", f.hour(), 0);
    due("hour 0", f.count(7), 0);
    due("day 1", f.count(8), 1);
    row("next day", f, 0, 0, 0, 2, 0, 0, 1, 0, 0);
    due("boot at home", f.boot(0, 1), 0);
    f.hour();
    due("walks again", f.brother(0, 0), 1);
    f.off(0);
    hours(f, 23);
    due("a boot that lies stays", f.boot(0, 1), 1);
    // wants come again each DAY
    OneBoots d = on("lane 2 0;brother 0 0;want 0 0 0 1;want 0 0 23 2");
    hours(d, 48);
    due("two days' pay", d.brother(0, 6), 6);
    // the last HOUR of DAY 999 lies behind the 512th call, but the call must answer
    OneBoots l = on("lane 2 0;brother 0 0");
    hours(l, 23999);
    due("DAY 999", l.count(8), 999);
    due("HOUR 23", l.count(7), 23);
    due("no more", l.hour(), NONE);
    due("still HOUR 23", l.count(7), 23);
    due("ahead of the last", l.ahead(0, 2, 0), 0);
  }

  // ---- 11, 12, 13 --------------------------------------------------------------------------
  private static void acts() {
    OneBoots o = on("lane 3 5;brother 0 5;brother 0 5;brother 0 6;brother 1 1;want 0 0 0 9;want 1 0 1 11;boots 0");
    due("too big", o.wear(0, 2), -2);
    due("elsewhere", o.wear(0, 3), -2);
    due("no boot", o.wear(2, 0), -2);
    due("no boot", o.wear(-1, 0), -2);
    due("no brother", o.wear(0, 4), -2);
    due("no brother", o.wear(0, NONE), -2);
    due("nothing happened", o.count(12), 0);
    due("put on", o.wear(0, 0), NONE);
    due("his own", o.wear(0, 0), -2);
    due("given over", o.wear(0, 1), 0);
    due("bits", o.brother(1, 5), 1);
    due("none left", o.brother(0, 5), 0);
    due("right one", o.wear(1, 1), NONE);
    due("both", o.brother(1, 5), 3);
    due("off", o.off(1), 0);
    due("off again", o.off(1), NONE);
    due("off none", o.off(2), NONE);
    due("off none", o.off(-1), NONE);
    due("acts", o.count(12), 4);

    due("not worn", o.cobble(0), NONE);
    OneBoots c = ruled("lane 3 5;brother 0 5;want 0 0 0 9;want 0 0 3 11;boots 0", "walk 1 if hour < 1;walk 0-1");
    c.wear(0, 0);
    hours(c, 1);
    due("worn 1", c.boot(0, 2), 1);
    due("9 is too little", c.cobble(0), NONE);
    hours(c, 3);
    due("20 earned", c.count(9), 20);
    due("the other is not worn", c.cobble(1), NONE);
    due("no boot", c.cobble(2), NONE);
    due("no boot", c.cobble(-1), NONE);
    due("cobble", c.cobble(0), 10);
    due("whole", c.boot(0, 2), 0);
    due("spent", c.count(10), 10);
    due("earned stays", c.count(9), 20);
    due("not worn any more", c.cobble(0), NONE);
    hours(c, 21);
    due("worn anew", c.boot(0, 2), 1);
    due("29 earned", c.count(9), 29);
    due("ten of nineteen", c.cobble(0), 9);
    OneBoots ten = on("lane 3 5;brother 0 5;want 0 1 1 10;boots 0");
    ten.wear(0, 0);
    hours(ten, 2);
    due("just ten", ten.cobble(0), 0);
    due("none is left", ten.cobble(0), NONE);
    // two a HOUR in FROST: 999 after 500 HOURS
    OneBoots much = ruled("lane 2 5;brother 0 5;frost 0 23;boots 0", "walk 1 - 2 * place");
    much.wear(1, 0);
    hours(much, 499);
    due("worn 998", much.boot(1, 2), 998);
    hours(much, 1);
    due("999 at most", much.boot(1, 2), 999);
    due("away from home", on(LANE).off(0), NONE);
    OneBoots a = on(LANE);
    a.wear(0, 0);
    hours(a, 2);
    due("off away from home", a.off(0), 2);
    due("it lies there", a.boot(0, 1), 2);
    due("nobody wears it", a.boot(0, 0), NONE);
    due("another one there", a.wear(0, 1), NONE);
  }

  // ---- 14 ----------------------------------------------------------------------------------
  private static void undo() {
    OneBoots o = on(LANE);
    o.wear(0, 0);
    o.seed(5);
    o.print(0, 0, 0, true);
    hours(o, 4);
    o.off(0);
    due("acts", o.count(12), 6);
    due("undo off", o.undo(), 5);
    due("he wears it", o.boot(0, 0), 0);
    due("undo hour", o.undo(), 4);
    due("not earned", o.count(9), 7);
    due("hour 3", o.count(7), 3);
    due("FROZEN no more", o.brother(1, 4), 0);
    due("chill", o.brother(2, 3), 46);
    due("x stays", o.count(13), 5);
    due("prints stay", o.count(11), 1);
    for (int i = 3; i >= 0; i--) due("undo", o.undo(), i);
    row("as at first", o, 0, 0, 0, 4, 0, 0, 0, 0, 3);
    due("nobody", o.boot(0, 0), NONE);
    due("no more", o.undo(), NONE);
    hours(o, 30);
    due("20 of them", o.count(12), 20);
    for (int i = 19; i >= 0; i--) due("undo", o.undo(), i);
    due("the 21st", o.undo(), NONE);
    due("hour 10", o.count(7), 10);
    due("day 0", o.count(8), 0);
    OneBoots f = ruled(LANE, "walk 1");
    f.hour();
    f.force(NONE);
    f.undo();
    due("the RULE IN FORCE stays", f.count(6), NONE);
  }

  // ---- 15 ----------------------------------------------------------------------------------
  private static void ahead() {
    OneBoots o = on(LANE);
    due("now", o.ahead(1, 0, 0), 4);
    due("place", o.ahead(0, 3, 0), 3);
    due("chill", o.ahead(0, 3, 1), 40);
    due("not yet", o.ahead(0, 3, 2), 0);
    due("earned", o.ahead(0, 4, 2), 10);
    due("four days", o.ahead(0, 96, 2), 40);
    due("home", o.ahead(2, 96, 0), 1);
    due("97", o.ahead(0, 97, 0), NONE);
    due("-1", o.ahead(0, -1, 0), NONE);
    due("what 3", o.ahead(0, 0, 3), NONE);
    due("what -1", o.ahead(0, 0, -1), NONE);
    due("brother 3", o.ahead(3, 0, 0), NONE);
    due("nothing changes", o.count(7), 0);
    due("no act", o.count(12), 0);
    hours(o, 24);
    due("so far", o.ahead(0, 24, 2), 20);
  }

  // ---- 16, 17, 18 --------------------------------------------------------------------------
  private static void lending() {
    OneBoots o = on(LANE);
    due("lend 24 to", o.lend(24, 0), 1);
    due("lend 24", o.lend(24, 1), 26);
    due("lend 4 to", o.lend(4, 0), NONE);
    due("lend 4", o.lend(4, 1), 17);
    due("lend 1", o.lend(1, 1), 0);
    due("lend 0", o.lend(0, 0), -2);
    due("lend 25", o.lend(25, 0), -2);
    due("lend what", o.lend(1, 2), -2);
    due("lend what", o.lend(1, -1), -2);
    due("worth of 1", o.worth(1, 24), 9);
    due("worth of 0", o.worth(0, 24), 0);
    due("worth of one too big", o.worth(2, 24), 0);
    due("worth of none", o.worth(3, 24), NONE);
    due("worth of none", o.worth(-1, 24), NONE);
    due("worth for 0", o.worth(0, 0), NONE);
    due("worth for 25", o.worth(0, 25), NONE);
    due("bids", o.bids(24), 0);
    due("bids for 0", o.bids(0), NONE);
    due("bids for 25", o.bids(25), NONE);
    due("nothing changes", o.boot(0, 0), NONE);
    due("no act", o.count(12), 0);
    // each of the three earns only if he wears them: PLACE 3 lies behind three wet HOURS
    String hard = "lane 4 5;brother 0 1;brother 0 2;brother 0 3;wet 1 9;wet 2 9;wet 3 9;frost 0 23;"
        + "want 0 3 4 20;want 1 3 4 30;want 2 3 4 25;sole 50";
    OneBoots h = on(hard);
    due("to the best", h.lend(24, 0), 1);
    due("30", h.lend(24, 1), 30);
    due("worth", h.worth(1, 24), 5);
    due("worth of another", h.worth(0, 24), 0);
    due("the second bid", h.bids(24), 25);
    due("too early", h.lend(4, 0), NONE);
    due("in the fifth", h.lend(5, 0), 1);
    OneBoots two = on("lane 4 5;brother 0 1;brother 0 2;wet 1 9;wet 2 9;wet 3 9;frost 0 23;want 0 3 4 20;want 1 3 4 20;boots 3");
    due("wherever they are; the least", two.lend(24, 0), 0);
    due("alike", two.bids(24), 20);
    due("neither is worth a thing", two.worth(0, 24), 0);
    OneBoots single = on("lane 4 1;brother 0 1;brother 0 2;wet 1 9;wet 2 9;wet 3 9;frost 0 23;want 0 3 4 20;want 1 3 4 20");
    due("only one fits", single.bids(24), 0);
    due("his worth", single.worth(0, 24), 20);
    due("nobody is there", on("lane 2 0").lend(24, 0), NONE);
    due("nobody earns", on("lane 2 0").lend(24, 1), 0);
    due("nobody bids", on("lane 2 0").bids(24), 0);
    // BROTHER 1 waits for boots that lie at PLACE 0: with them on anybody he earns nothing
    OneBoots below = ruled("lane 3 5;brother 0 1;brother 0 2;want 1 1 1 9", "walk 1 if lying = 2 and place = 0");
    due("by nobody", below.lend(2, 0), NONE);
    due("by nobody 9", below.lend(2, 1), 9);
    due("bids below 0", below.bids(2), 0);
  }

  // ---- 19 ----------------------------------------------------------------------------------
  private static void relay() {
    OneBoots o = on(LANE);
    due("relay 0", o.relay(0, 0), -3);
    due("relay 5", o.relay(5, 0), -3);
    due("relay what", o.relay(4, 5), -3);
    due("relay what", o.relay(4, -1), -3);
    due("so many there are not", o.relay(2, 3), -2);
    due("so many there are not", o.relay(3, 4), -2);
    // naming BROTHER 0 ahead of the first HOUR keeps his feet dry; nobody is as good later on
    due("relay 4", o.relay(4, 0), 17);
    due("first", o.relay(4, 1), 0);
    due("then nobody", o.relay(4, 2), NONE);
    due("nothing changes", o.boot(0, 0), NONE);
    // two meet at PLACE 1: the boots go over there
    String meet = "lane 3 5;brother 0 1;brother 1 2;wet 1 5;wet 2 9;frost 0 9;want 0 1 1 7;want 1 2 2 8;want 1 2 3 6;boots 0";
    OneBoots m = ruled(meet, "walk 1 if brother = 0 and hour = 0 or brother = 1 and hour = 1");
    due("all", m.relay(4, 0), 21);
    due("he brings them", m.relay(4, 1), 0);
    due("the other one takes them", m.relay(4, 2), 1);
    due("nobody", m.relay(4, 3), NONE);
    due("nobody", m.relay(4, 4), NONE);
    due("by less CHILL", m.relay(1, 1), 0);
    due("no use yet", on(meet).relay(1, 0), 0);
    OneBoots big = on("lane 2 0;brother 0 1;want 0 1 1 5;wet 1 9");
    due("he does not fit", big.relay(2, 1), NONE);
    due("he earns", big.relay(2, 0), 5);
    due("nobody there", on("lane 2 0").relay(4, 4), NONE);
  }

  // ---- 20, 21, 22 --------------------------------------------------------------------------
  private static void prints() {
    String lane = "lane 4 5;brother 0 5;brother 3 4;brother 1 6;wet 1 1;want 0 2 3 1;want 1 1 3 1;boots 3";
    OneBoots o = on(lane);
    due("all can be", o.feet(0), 3);
    due("nobody ahead of 0", o.feet(1), NONE);
    due("feet what", o.feet(2), -3);
    due("feet what", o.feet(-1), -3);
    // HOUR 1: 0 is at 1 with 2 (at his home 1), 1 is at 2
    due("look", o.look(1, 0), 1);
    due("how many", o.look(1, 1), 2);
    due("look at 48", o.look(48, 0), NONE);
    due("look at -1", o.look(-1, 0), NONE);
    due("look what", o.look(0, 2), NONE);
    due("look at 0", o.look(0, 0), 0);
    due("print", o.print(1, 1, 2, false), 1);
    due("0 is out", o.feet(0), 2);
    due("nobody", o.feet(1), NONE);
    due("look where 1 is", o.look(1, 0), 2);
    due("one is left then", o.look(1, 1), 1);
    due("print 2", o.print(0, 3, 2, true), 2);
    due("1 did", o.feet(0), 1);
    due("it was 1", o.feet(1), 1);
    due("print 3", o.print(5, 0, 1, true), 3);
    due("none at all", o.feet(0), 0);
    due("none", o.feet(1), -2);
    due("nowhere to look", o.look(0, 0), -2);
    due("nowhere to look", o.look(0, 1), -2);
    due("n 48", o.print(48, 0, 0, true), -2);
    due("n -2", o.print(-2, 0, 0, true), -2);
    due("place 4", o.print(0, 4, 0, true), -2);
    due("place -1", o.print(0, -1, 0, true), -2);
    due("3 boots", o.print(0, 0, 3, true), -2);
    due("-1 boots", o.print(0, 0, -1, true), -2);
    for (int i = 4; i <= 10; i++) due("print " + i, o.print(47, 3, 0, false), i);
    due("an 11th", o.print(47, 3, 0, false), -2);
    due("none then", o.print(NONE, 99, 99, true), 0);
    due("no prints", o.count(11), 0);
    due("all again", o.feet(0), 3);
    hours(o, 30);
    o.wear(0, 1);
    due("as the text told it", o.look(1, 0), 1);
    // an empty PLACE: nobody there did, and it counts by itself
    due("print", o.print(0, 2, 0, true), 1);
    due("nobody was there", o.feet(0), 0);
    o.print(NONE, 0, 0, false);
    due("print", o.print(0, 2, 0, false), 1);
    due("so it was", o.feet(0), 3);
    // the boots lie at PLACE 0 if nobody wears them, whatever the text says
    OneBoots r = ruled(lane, "walk 1 if lying = 2");
    due("print", r.print(1, 1, 0, true), 1);
    r.print(1, 0, 0, false);
    r.print(1, 0, 2, false);
    due("nobody wore them", r.feet(0), 1);
    due("nobody", r.feet(1), NONE);
    r.force(NONE);
    due("by the RULE IN FORCE", r.feet(0), 3);
  }

  // ---- 23 ----------------------------------------------------------------------------------
  private static void cobbler() {
    OneBoots o = on("lane 2 0;brother 0 0;sole 10");
    // worn 4 a DAY: a HOLE at the end of the third DAY, if it is not cobbled
    due("two days", o.cobbler(0, 2, 4, 5, 7, 0), 0);
    due("never", o.cobbler(0, 2, 4, 5, 7, 1), NONE);
    due("three days", o.cobbler(0, 3, 4, 5, 7, 0), 5);
    due("the latest", o.cobbler(0, 3, 4, 5, 7, 1), 2);
    due("four days", o.cobbler(0, 4, 4, 5, 7, 0), 5);
    due("ahead of 2", o.cobbler(0, 4, 4, 5, 7, 1), 2);
    due("five days", o.cobbler(1, 5, 4, 5, 7, 0), 10);
    due("six days", o.cobbler(1, 6, 4, 5, 7, 0), 10);
    due("six days, from 2", o.cobbler(1, 6, 4, 5, 7, 1), 2);
    due("dear", o.cobbler(0, 3, 4, 8, 7, 0), 7);
    due("never", o.cobbler(0, 3, 4, 8, 7, 1), NONE);
    due("as dear: never is the latest", o.cobbler(0, 3, 4, 7, 7, 1), NONE);
    due("worn through each DAY", o.cobbler(0, 30, 10, 1, 9, 0), 270);
    due("no use", o.cobbler(0, 30, 10, 1, 9, 1), NONE);
    due("just a HOLE", o.cobbler(0, 2, 5, 3, 99, 0), 3);
    due("not worn", o.cobbler(0, 30, 0, 1, 99, 0), 0);
    due("for nothing", o.cobbler(0, 30, 9, 0, 99, 0), 0);
    due("n 0", o.cobbler(0, 0, 1, 1, 1, 0), -2);
    due("n 31", o.cobbler(0, 31, 1, 1, 1, 0), -2);
    due("w", o.cobbler(0, 1, 100, 1, 1, 0), -2);
    due("w", o.cobbler(0, 1, -1, 1, 1, 0), -2);
    due("c", o.cobbler(0, 1, 1, 100, 1, 0), -2);
    due("c", o.cobbler(0, 1, 1, -1, 1, 0), -2);
    due("f", o.cobbler(0, 1, 1, 1, 100, 0), -2);
    due("f", o.cobbler(0, 1, 1, 1, -1, 0), -2);
    due("boot", o.cobbler(2, 1, 1, 1, 1, 0), -2);
    due("boot", o.cobbler(-1, 1, 1, 1, 1, 0), -2);
    due("what", o.cobbler(0, 1, 1, 1, 1, 2), -2);
    due("what", o.cobbler(0, 1, 1, 1, 1, -1), -2);
    due("the greatest", o.cobbler(0, 30, 99, 99, 99, 0), 2970);
    OneBoots w = ruled("lane 9 0;brother 0 0;sole 4", "walk 1");
    w.wear(0, 0);
    hours(w, 5);
    due("worn now", w.boot(0, 2), 5);
    due("at once", w.cobbler(0, 1, 1, 3, 9, 0), 3);
    due("DAY 0", w.cobbler(0, 1, 1, 3, 9, 1), 0);
    due("the other is whole", w.cobbler(1, 1, 1, 3, 9, 0), 0);
  }

  // ---- 24 ----------------------------------------------------------------------------------
  private static void second() {
    OneBoots o = on(LANE);
    due("by BROTHER 1", o.second(6, 24, 0), 9);
    due("who", o.second(6, 24, 1), 1);
    due("only 0 fits", o.second(4, 24, 1), 0);
    due("no more", o.second(4, 24, 0), 0);
    due("nobody can", o.second(3, 24, 0), 0);
    due("nobody can", o.second(3, 24, 1), -2);
    // 2 earns his 5, too, but 9 is more
    due("of all", o.second(9, 24, 1), 1);
    due("in five HOURS", o.second(9, 5, 0), 5);
    due("in five HOURS", o.second(9, 5, 1), 2);
    due("size", o.second(10, 24, 0), -100000);
    due("size", o.second(-1, 24, 0), -100000);
    due("n 0", o.second(6, 0, 0), -100000);
    due("n 25", o.second(6, 25, 0), -100000);
    due("what", o.second(6, 24, 2), -100000);
    due("what", o.second(6, 24, -1), -100000);
    o.wear(0, 0);
    due("he wears one", o.second(4, 24, 1), -2);
    due("nothing changes", o.brother(1, 5), 0);
    OneBoots b = ruled("lane 3 5;brother 0 1;brother 0 1;want 0 0 1 9;want 1 0 1 7", "walk boots / 2");
    due("the WORD boots is 2: he walks off", b.second(5, 2, 0), -7);
    due("the one who loses least", b.second(5, 2, 1), 1);
    OneBoots a = ruled("lane 3 5;brother 0 1;brother 0 1;want 0 0 1 9;want 1 0 1 9", "walk boots - 1 if boots > 1");
    due("alike: the least", a.second(5, 2, 1), 0);
    OneBoots whole = ruled("lane 9 0;brother 0 1;wet 7 9;wet 8 9;frost 0 23;sole 1;want 0 8 9 4;want 0 8 11 4", "walk 1");
    due("it never gets a HOLE", whole.second(1, 24, 0), 8);
  }

  // ---- 25, 26 ------------------------------------------------------------------------------
  private static void winters() {
    OneBoots o = on("lane 3 5;brother 0 1;brother 2 2;wet 1 9;want 0 1 1 4;want 1 1 3 6");
    due("seed", o.seed(42), 0);
    due("seed below", o.seed(-1), NONE);
    due("seed deep", o.seed(DEEP), NONE);
    due("seed far", o.seed(FAR), 42);
    due("seed 0", o.seed(0), FAR);
    // without FROST: 18 an HOUR from the first on, FROZEN in the fourth; 0 goes home in HOUR 2
    due("no frost", o.winters(1, 24, 0, 0), 10);
    due("no frost", o.winters(3, 24, 0, 0), 30);
    due("1 stays till HOUR 3", o.winters(1, 24, 0, 1), 1);
    due("each time", o.winters(10, 24, 0, 1), 10);
    due("each DAY", o.winters(1, 72, 0, 1), 3);
    // in FROST all the time: 36, 72: both FROZEN in HOUR 1, ahead of HOUR 3
    due("all frost", o.winters(1, 24, 100, 0), 4);
    due("all frost", o.winters(2, 24, 100, 1), 4);
    due("x as it was", o.count(13), 0);
    due("nothing stays", o.count(7), 0);
    due("m 0", o.winters(0, 1, 1, 0), NONE);
    due("m 11", o.winters(11, 1, 1, 0), NONE);
    due("n 0", o.winters(1, 0, 1, 0), NONE);
    due("n 73", o.winters(1, 73, 1, 0), NONE);
    due("p -1", o.winters(1, 1, -1, 0), NONE);
    due("p 101", o.winters(1, 1, 101, 0), NONE);
    due("what", o.winters(1, 1, 1, 2), NONE);
    due("what", o.winters(1, 1, 1, -1), NONE);
    // from 0: 12345 (0), 1406932606 (21468), 654583775 (9988), 1449466924 (22117): mod 100 it is 0, 68, 88, 17
    OneBoots d = ruled("lane 9 5;brother 0 1;want 0 1 1 1;want 0 1 2 1;want 0 1 3 1;want 0 2 3 1", "walk frost");
    due("0 is below 1", d.winters(1, 2, 1, 0), 1);
    due("0 is not below 0", d.winters(1, 2, 0, 0), 0);
    due("68 is not below 68", d.winters(1, 4, 68, 0), 3);
    due("68 is below 69", d.winters(1, 4, 69, 0), 2);
    // the second time goes on with 88 and 17
    due("draws go on", d.winters(2, 2, 1, 0), 1);
    due("draws go on", d.winters(2, 2, 89, 0), 2);
    d.seed(12345);
    due("68 comes first", d.winters(1, 2, 68, 0), 0);
    due("68 comes first", d.winters(1, 2, 69, 0), 1);
  }

  // ---- 27 ----------------------------------------------------------------------------------
  private static void count() {
    OneBoots o = on(LANE);
    due("count -1", o.count(-1), NONE);
    due("count 16", o.count(16), NONE);
    due("count far", o.count(FAR), NONE);
    o.feed(0, 0, 0, 0, 0);
    due("tape", o.count(14), 20);
    o.end(0);
    tellRule(o, "walk 1");
    due("rules", o.count(5), 1);
    due("none in force", o.count(6), NONE);
    o.seed(9);
    due("x", o.count(13), 9);
    hours(o, 25);
    due("hour", o.count(7), 1);
    due("day", o.count(8), 1);
    due("acts", o.count(12), 20);
  }

  // ---- 28, 29 ------------------------------------------------------------------------------
  private static void images() {
    OneBoots o = on(LANE);
    due("image 4", o.image(4), NONE);
    due("image -1", o.image(-1), NONE);
    due("back 4", o.back(4), NONE);
    due("back -1", o.back(-1), NONE);
    due("never made", o.back(0), NONE);
    tellRule(o, "walk 1");
    o.seed(3);
    o.print(1, 1, 1, false);
    o.wear(0, 0);
    hours(o, 26);
    due("image", o.image(2), 1);
    due("acts stay", o.count(12), 20);
    o.force(0);
    o.seed(4);
    o.print(NONE, 0, 0, false);
    hours(o, 30);
    o.off(0);
    due("another LANE", tellLane(o, "lane 2 9;brother 1 1;frost 1 1;frost 2 2;sole 7"), 1);
    due("image of it", o.image(3), 0);
    tellRule(o, "walk 0");
    o.feed(0, 0, 0, 0, 0);
    o.hour();
    due("back", o.back(2), 1);
    int[] counts = {5, 6, 3, 1, 4, 2, NONE, 2, 1, 17, 0, 1, 0, 3, 20, 4};
    for (int i = 0; i < 16; i++) due("back count " + i, o.count(i), counts[i]);
    row("back", o, 0, 2, 0, 4, 20, 0, 1, 10, 3);
    due("nothing can be undone", o.undo(), NONE);
    due("he wears it", o.boot(0, 0), 0);
    due("wet", o.wet(2), 8);
    due("frost of that LANE", o.ahead(0, 1, 1), o.brother(0, 3) + 20);
    o.hour();
    due("one act", o.undo(), 0);
    due("back once more", o.back(2), 1);
    due("back to the other", o.back(3), 0);
    due("its RULE", o.count(6), 0);
    due("its SOLE", o.count(15), 7);
    due("made anew", o.image(2), 0);
    due("and gone back to", o.back(2), 0);
    due("sole", o.count(15), 7);

    OneBoots n = new OneBoots();
    due("image without a LANE", n.image(0), 0);
    n.seed(8);
    tellLane(n, LANE);
    hours(n, 24);
    due("back to no LANE", n.back(0), 0);
    due("no LANE", n.count(1), NONE);
    due("no BROTHERS", n.brother(0, 0), NONE);
    due("no hour", n.hour(), NONE);
    due("x", n.count(13), 0);
    due("the day", n.count(8), 0);
  }
}
