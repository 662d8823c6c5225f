import java.util.function.IntSupplier;

/** What the tests of the edges have in common: telling texts, comparing answers, and seeing that nothing happened. */
class Edge {
  static final int NONE = OneBoots.NONE;
  static final int FAR = Integer.MAX_VALUE;
  static final int DEEP = Integer.MIN_VALUE;
  static int asked = 0;
  static int wrong = 0;
  static String test = "";

  static void due(String what, int got, int want) {
    asked++;
    if (got != want) {
      wrong++;
      System.out.println(test + ": " + what + " answered " + got + ", due is " + want);
    }
  }

  // ---- texts -------------------------------------------------------------------------------

  /** Feeds a text; what the last feed has too much is cut off by end. */
  static void put(OneBoots o, String text) {
    for (int from = 0; from < text.length(); from += 20) {
      int[] v = new int[5];
      for (int i = 0; i < 20; i++) {
        v[i / 4] = v[i / 4] << 8 | (from + i < text.length() ? text.charAt(from + i) : 'x');
      }
      o.feed(v[0], v[1], v[2], v[3], v[4]);
    }
    due("end of a text", o.end(text.length()), text.length());
  }

  static int tellLane(OneBoots o, String text) {
    put(o, text);
    return o.lane();
  }

  static int tellRule(OneBoots o, String text) {
    put(o, text);
    return o.rule();
  }

  static OneBoots on(String lane) {
    OneBoots o = new OneBoots();
    int answer = tellLane(o, lane);
    if (answer < 0) due("lane '" + lane + "'", answer, 0);
    return o;
  }

  static OneBoots ruled(String lane, String rule) {
    OneBoots o = on(lane);
    force(o, rule);
    return o;
  }

  static void force(OneBoots o, String rule) {
    int answer = tellRule(o, rule);
    if (answer < 0) due("rule '" + rule + "'", answer, 0);
    o.force(answer);
  }

  static int fault(int place, int kind) {
    return -2 - (1 + 8 * place + kind);
  }

  /** A ~ marks the place of the FAULT, and is no part of the text. */
  static void laneFault(String marked, int kind) {
    String text = marked.replace("~", "");
    due("lane '" + marked + "'", tellLane(new OneBoots(), text), fault(marked.indexOf('~'), kind));
  }

  static void ruleFault(String marked, int kind) {
    String text = marked.replace("~", "");
    due("rule '" + marked + "'", tellRule(new OneBoots(), text), fault(marked.indexOf('~'), kind));
  }

  static void goodLane(String text, int brothers) {
    due("lane '" + text + "'", tellLane(new OneBoots(), text), brothers);
  }

  static void goodRule(String text) {
    due("rule '" + text + "'", tellRule(new OneBoots(), text), 0);
  }

  /** How far the RULE moves the first BROTHER, who begins at PLACE 1 of 3. */
  static int way(String rule) {
    return ruled("lane 3 5;brother 1 5", rule).ahead(0, 1, 0) - 1;
  }

  static void holds(String lane, int brother, String test, boolean is) {
    OneBoots o = on(lane);
    force(o, "walk 1 if brother = " + brother + " and [" + test + "]");
    due(test, o.ahead(brother, 1, 0) - o.brother(brother, 0), is ? 1 : 0);
  }

  // ---- states ------------------------------------------------------------------------------

  static void hours(OneBoots o, int n) {
    for (int i = 0; i < n; i++) o.hour();
  }

  static void wearBoth(OneBoots o, int brother) {
    o.wear(0, brother);
    o.wear(1, brother);
  }

  /** All that can be seen of an object without asking what would be. */
  static int[] seen(OneBoots o) {
    int[] all = new int[16 + 48 + 8 + 10];
    int at = 0;
    for (int what = 0; what < 16; what++) all[at++] = o.count(what);
    for (int b = 0; b < 6; b++) for (int what = 0; what < 8; what++) all[at++] = o.brother(b, what);
    for (int k = 0; k < 2; k++) for (int what = 0; what < 4; what++) all[at++] = o.boot(k, what);
    for (int p = 0; p < 10; p++) all[at++] = o.wet(p);
    return all;
  }

  static void sameAs(String what, OneBoots o, int[] before) {
    int[] now = seen(o);
    for (int i = 0; i < now.length; i++) due(what + ", seen " + i, now[i], before[i]);
  }

  /** The call has this answer, and nothing that can be seen has changed by it. */
  static void quiet(String what, OneBoots o, IntSupplier call, int want) {
    int[] before = seen(o);
    due(what, call.getAsInt(), want);
    sameAs(what, o, before);
  }

  static String times(String s, int n) {
    return s.repeat(n);
  }
}
