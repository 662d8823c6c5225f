import java.util.Random;

/** Random texts of LANES and RULES, most of them good, some with a FAULT somewhere. */
final class Texts {
  static final String[] WORDS = {"brother", "place", "home", "size", "hour", "day", "goal", "pay", "until",
      "wet", "frost", "boots", "chill", "others", "lying"};
  private final Random random;

  Texts(Random random) {
    this.random = random;
  }

  private int up(int n) {
    return random.nextInt(n);
  }

  private String gap() {
    int k = up(12);
    return k == 0 ? "  " : " ";
  }

  private String maybe() {
    return up(4) == 0 ? " " : "";
  }

  String lane() {
    return up(2) == 0 ? hardLane() : anyLane();
  }

  /** A lane so wet that the boots decide who earns. */
  private String hardLane() {
    int places = 3 + up(4);
    StringBuilder s = new StringBuilder("lane " + places + " " + (5 + up(5)));
    int men = 2 + up(5);
    int home = up(places);
    for (int i = 0; i < men; i++) {
      s.append(";brother ").append(up(2) == 0 ? home : up(places)).append(' ').append(up(4) == 0 ? up(10) : up(6));
    }
    for (int i = 0; i < places; i++) s.append(";wet ").append(i).append(' ').append(7 + up(3));
    int frosts = up(3);
    for (int i = 0; i < frosts; i++) s.append(";frost ").append(up(6)).append(' ').append(6 + up(18));
    for (int i = 0; i < 10; i++) {
      s.append(";want ").append(up(men)).append(' ').append(up(places)).append(' ');
      s.append(1 + up(15)).append(' ').append(1 + up(50));
    }
    s.append(";sole ").append(2 + up(15)).append(";boots ").append(up(3) == 0 ? up(places) : home);
    return s.toString();
  }

  private String anyLane() {
    int places = 2 + up(9);
    StringBuilder s = new StringBuilder("lane " + places + gap() + (3 + up(7)));
    int men = up(20) == 0 ? 0 : 1 + up(6);
    for (int i = 0; i < men; i++) s.append(maybe()).append(";brother ").append(up(places)).append(gap()).append(up(10));
    int wet = up(places + 1);
    for (int i = 0; i < wet; i++) s.append(";wet").append(gap()).append(up(places)).append(' ').append(up(10));
    int frosts = up(5);
    for (int i = 0; i < frosts; i++) {
      int a = up(24);
      s.append("; frost ").append(a).append(' ').append(a + up(24 - a));
    }
    int wants = men == 0 ? 0 : up(11);
    for (int i = 0; i < wants; i++) {
      s.append(";want ").append(up(men)).append(' ').append(up(places)).append(' ');
      s.append(up(2) == 0 ? up(8) : up(24)).append(' ').append(1 + up(50));
    }
    if (up(2) == 0) s.append(";sole ").append(up(2) == 0 ? 1 + up(6) : 1 + up(99));
    if (up(2) == 0) s.append(";boots ").append(up(places)).append(maybe());
    return s.toString();
  }

  String rule() {
    StringBuilder s = new StringBuilder();
    int clauses = 1 + up(3);
    for (int i = 0; i < clauses; i++) {
      if (i > 0) s.append(maybe()).append(';').append(maybe());
      s.append("walk ").append(up(3) == 0 ? "goal - place" : sum());
      if (i < clauses - 1 || up(3) == 0) s.append(" if ").append(test(3));
    }
    return s.toString();
  }

  private String value() {
    if (up(3) == 0) return "" + (up(5) == 0 ? up(100000) : up(12));
    return WORDS[up(WORDS.length)];
  }

  private String term() {
    StringBuilder s = new StringBuilder(value());
    while (up(4) == 0) s.append(maybe()).append("*/%".charAt(up(3))).append(maybe()).append(value());
    return s.toString();
  }

  private String sum() {
    StringBuilder s = new StringBuilder(term());
    while (up(2) == 0) s.append(maybe()).append("+-".charAt(up(2))).append(maybe()).append(term());
    return s.toString();
  }

  private String test(int deep) {
    return up(3) == 0 ? part(deep) + " or " + part(deep) : part(deep);
  }

  private String part(int deep) {
    return up(3) == 0 ? fact(deep) + " and " + fact(deep) : fact(deep);
  }

  private String fact(int deep) {
    if (deep > 0 && up(4) == 0) return "not " + fact(deep - 1);
    if (deep > 0 && up(4) == 0) return "[" + maybe() + test(deep - 1) + maybe() + "]";
    String[] signs = {"<", "<=", "=", ">=", ">"};
    return sum() + maybe() + signs[up(5)] + maybe() + sum();
  }

  /** A text near one of the limits that the document tells. */
  String edge() {
    StringBuilder s = new StringBuilder();
    int n;
    switch (up(8)) {
      case 0:
        s.append("lane 3 5");
        n = 38 + up(4);
        for (int i = 1; i < n; i++) s.append(";wet1 ").append(up(10));
        return s.toString();
      case 1:
        s.append("lane 3 5;brother 0 0");
        String[] clauses = {";brother 1 1", ";frost 1 2", ";want 0 1 2 3", ";sole 3", ";boots 1", ";lane 2 2"};
        String one = clauses[up(6)];
        n = up(12);
        for (int i = 0; i < n; i++) s.append(one);
        return s.toString();
      case 2:
        n = 11 + up(3);
        for (int i = 0; i < n; i++) s.append(i > 0 ? ";walk " : "walk ").append(i);
        return s.toString();
      case 3:
        s.append("walk 1 if ");
        n = 9 + up(3);
        for (int i = 0; i < n; i++) s.append(up(2) == 0 ? "not " : "[ ");
        int open = s.toString().split("\\[", -1).length - 1;
        s.append("place < 3");
        for (int i = 0; i < open; i++) s.append(']');
        return s.toString();
      case 4:
        s.append("walk place-1");
        n = 56 + up(4);
        for (int i = 0; i < n; i++) s.append("+1");
        return s.toString();
      case 5:
        s.append("walk 1 if 0<1");
        n = 17 + up(4);
        for (int i = 0; i < n; i++) s.append(up(2) == 0 ? " or 1=2" : " and 1=1");
        return s.append(up(2) == 0 ? "+1" : "").toString();
      case 6:
        s.append("walk ");
        n = 1 + up(7);
        for (int i = 0; i < n; i++) s.append(up(10));
        return s.append(" % 7 - 3").toString();
      default:
        s.append("lane ");
        n = 1 + up(7);
        for (int i = 0; i < n - 1; i++) s.append(0);
        return s.append(up(12)).append(" ").append(up(12)).append(";brother 0 ").append(up(11)).toString();
    }
  }

  /** The text with a byte or a word changed, left out or put in. */
  String spoilt(String text) {
    StringBuilder s = new StringBuilder(text);
    String signs = ";[]+-*/%<=> 0123456789abz~\u0000\u00ff(A";
    int times = 1 + up(2);
    for (int i = 0; i < times && s.length() > 0; i++) {
      int at = up(s.length());
      char c = signs.charAt(up(signs.length()));
      switch (up(6)) {
        case 0: s.setCharAt(at, c); break;
        case 1: s.deleteCharAt(at); break;
        case 2: s.insert(at, c); break;
        case 3: s.setLength(at); break;
        case 4: s.insert(at, " " + WORDS[up(WORDS.length)] + " "); break;
        default: s.insert(at, new String[] {" if ", " not ", " or ", ";walk ", ";wet 1 1", " 123456 "}[up(6)]);
      }
    }
    return s.toString();
  }
}
