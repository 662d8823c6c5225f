import java.util.ArrayList;
import java.util.Arrays;
import java.util.HashMap;
import java.util.LinkedList;
import java.util.List;
import java.util.Map;
import java.util.function.ToLongFunction;
import java.util.function.Predicate;

/**
 * The document once more, in its plainest form and with all of the Java library: what ModelTest
 * compares the program with. It shares no code with the program, and tries all ways where it can.
 */
final class PlainBoots {
  static final int NONE = -1;

  // ---- what a text tells -------------------------------------------------------------------

  static final class Fault extends RuntimeException {
    private static final long serialVersionUID = 1L;
    final int code;

    Fault(int place, int kind) {
      code = 1 + 8 * place + kind;
    }
  }

  static final class Token {
    final char kind; // w, n, s, e
    final String text;
    final int place;

    Token(char kind, String text, int place) {
      this.kind = kind;
      this.text = text;
      this.place = place;
    }

    boolean is(String other) {
      return kind != 'e' && text.equals(other);
    }
  }

  static List<Token> tokens(String text) {
    List<Token> all = new ArrayList<>();
    int i = 0;
    while (i < text.length()) {
      char c = text.charAt(i);
      int from = i;
      if (c == ' ') {
        i++;
        continue;
      }
      if ("abcdefghijklmnopqrstuvwxyz".indexOf(c) >= 0) {
        while (i < text.length() && text.charAt(i) >= 'a' && text.charAt(i) <= 'z') i++;
        all.add(new Token('w', text.substring(from, i), from));
      } else if ("0123456789".indexOf(c) >= 0) {
        while (i < text.length() && text.charAt(i) >= '0' && text.charAt(i) <= '9') i++;
        all.add(new Token('n', text.substring(from, i), from));
      } else {
        i++;
        if (text.startsWith("<=", from) || text.startsWith(">=", from)) i++;
        all.add(new Token('s', text.substring(from, i), from));
      }
    }
    all.add(new Token('e', "", text.length()));
    return all;
  }

  static final class Want {
    int brother, place, hour, pay;
  }

  static final class Lane {
    int places, size, sole = 30, bootsAt;
    int[] wet;
    List<int[]> brothers = new ArrayList<>(); // home, size
    List<int[]> frosts = new ArrayList<>();
    List<Want> wants = new ArrayList<>();
  }

  static final class LaneText {
    final LinkedList<Token> rest;
    final Lane lane = new Lane();
    final Map<String, Integer> told = new HashMap<>();

    LaneText(String text) {
      rest = new LinkedList<>(tokens(text));
      int clauses = 0;
      while (true) {
        Token t = rest.getFirst();
        List<String> known = Arrays.asList("lane", "brother", "wet", "frost", "want", "sole", "boots");
        if (t.kind != 'w' || !known.contains(t.text)) throw new Fault(t.place, 0);
        clauses++;
        int so = told.merge(t.text, 1, Integer::sum);
        Map<String, Integer> most = Map.of("lane", 1, "brother", 6, "frost", 4, "want", 10, "sole", 1, "boots", 1);
        if (clauses > 40) throw new Fault(t.place, 4);
        if (clauses == 1 && !t.text.equals("lane")) throw new Fault(t.place, 4);
        if (so > most.getOrDefault(t.text, 99)) throw new Fault(t.place, 4);
        rest.removeFirst();
        clause(t.text);
        Token after = rest.removeFirst();
        if (after.kind == 'e') return;
        if (!after.is(";")) throw new Fault(after.place, 0);
      }
    }

    int num(int least, int most) {
      Token t = rest.removeFirst();
      if (t.kind != 'n') throw new Fault(t.place, 0);
      if (t.text.length() > 5) throw new Fault(t.place, 1);
      int v = Integer.parseInt(t.text);
      if (v < least || v > most) throw new Fault(t.place, 1);
      return v;
    }

    void clause(String word) {
      int last = lane.places - 1;
      switch (word) {
        case "lane" -> {
          lane.places = num(2, 10);
          lane.size = num(0, 9);
          lane.wet = new int[lane.places];
        }
        case "brother" -> lane.brothers.add(new int[] {num(0, last), num(0, 9)});
        case "wet" -> {
          int p = num(0, last);
          lane.wet[p] = num(0, 9);
        }
        case "frost" -> {
          int first = num(0, 23);
          lane.frosts.add(new int[] {first, num(first, 23)});
        }
        case "want" -> {
          Want w = new Want();
          w.brother = num(0, lane.brothers.size() - 1);
          w.place = num(0, last);
          w.hour = num(0, 23);
          w.pay = num(1, 50);
          lane.wants.add(w);
        }
        case "sole" -> lane.sole = num(1, 99);
        default -> lane.bootsAt = num(0, last);
      }
    }
  }

  interface Words extends ToLongFunction<String> {}

  static final class Clause {
    ToLongFunction<Words> sum;
    Predicate<Words> test;
  }

  static final class RuleText {
    final List<Token> all;
    final List<Clause> clauses = new ArrayList<>();
    int at = 0;
    int used = 0;

    RuleText(String text) {
      all = tokens(text);
      while (true) {
        Token t = all.get(at);
        if (!t.is("walk")) throw new Fault(t.place, 0);
        if (clauses.size() == 12) throw new Fault(t.place, 4);
        at++;
        Clause c = new Clause();
        c.sum = sum();
        if (all.get(at).is("if")) {
          at++;
          c.test = test(0);
        }
        clauses.add(c);
        Token after = all.get(at++);
        if (after.kind == 'e') return;
        if (!after.is(";")) throw new Fault(after.place, 0);
      }
    }

    Predicate<Words> test(int deep) {
      Predicate<Words> p = part(deep);
      while (all.get(at).is("or")) {
        at++;
        p = p.or(part(deep));
      }
      return p;
    }

    Predicate<Words> part(int deep) {
      Predicate<Words> p = fact(deep);
      while (all.get(at).is("and")) {
        at++;
        p = p.and(fact(deep));
      }
      return p;
    }

    Predicate<Words> fact(int deep) {
      Token t = all.get(at);
      if (t.is("not") || t.is("[")) {
        if (deep + 1 > 10) throw new Fault(t.place, 2);
        at++;
        if (t.is("not")) return fact(deep + 1).negate();
        Predicate<Words> inner = test(deep + 1);
        Token close = all.get(at++);
        if (!close.is("]")) throw new Fault(close.place, 0);
        return inner;
      }
      ToLongFunction<Words> left = sum();
      Token sign = all.get(at);
      if (sign.kind != 's' || !Arrays.asList("<", "<=", "=", ">=", ">").contains(sign.text)) {
        throw new Fault(sign.place, 0);
      }
      use(sign);
      at++;
      ToLongFunction<Words> right = sum();
      return w -> {
        int c = Long.compare(left.applyAsLong(w), right.applyAsLong(w));
        switch (sign.text) {
          case "<": return c < 0;
          case "<=": return c <= 0;
          case "=": return c == 0;
          case ">=": return c >= 0;
          default: return c > 0;
        }
      };
    }

    ToLongFunction<Words> sum() {
      ToLongFunction<Words> s = term();
      while (all.get(at).is("+") || all.get(at).is("-")) {
        boolean plus = all.get(at++).is("+");
        ToLongFunction<Words> a = s;
        ToLongFunction<Words> b = term();
        s = w -> plus ? a.applyAsLong(w) + b.applyAsLong(w) : a.applyAsLong(w) - b.applyAsLong(w);
      }
      return s;
    }

    ToLongFunction<Words> term() {
      ToLongFunction<Words> s = value();
      while (all.get(at).is("*") || all.get(at).is("/") || all.get(at).is("%")) {
        String op = all.get(at++).text;
        ToLongFunction<Words> a = s;
        ToLongFunction<Words> b = value();
        s = w -> {
          long x = a.applyAsLong(w);
          long y = b.applyAsLong(w);
          if (op.equals("*")) return x * y;
          if (y == 0) return 0;
          return op.equals("/") ? x / y : x % y;
        };
      }
      return s;
    }

    ToLongFunction<Words> value() {
      Token t = all.get(at);
      if (t.kind == 'n') {
        if (t.text.length() > 5) throw new Fault(t.place, 1);
        use(t);
        at++;
        long v = Long.parseLong(t.text);
        return w -> v;
      }
      List<String> known = Arrays.asList("brother", "place", "home", "size", "hour", "day", "goal", "pay",
          "until", "wet", "frost", "boots", "chill", "others", "lying");
      if (t.kind != 'w' || !known.contains(t.text)) throw new Fault(t.place, 0);
      use(t);
      at++;
      return w -> w.applyAsLong(t.text);
    }

    void use(Token t) {
      if (++used > 60) throw new Fault(t.place, 3);
    }
  }

  // ---- the world ---------------------------------------------------------------------------

  static final class Man implements Cloneable {
    int number, home, size, place, chill, earned;
    boolean frozen, second;

    @Override
    public Man clone() {
      try {
        return (Man) super.clone();
      } catch (CloneNotSupportedException e) {
        throw new AssertionError(e);
      }
    }
  }

  static final class Boot {
    int wearer = NONE, lies, worn;
  }

  final class World {
    List<Man> men = new ArrayList<>();
    Boot[] boots = {new Boot(), new Boot()};
    int hour, day, spent, froze;

    World() {}

    World copy() {
      World w = new World();
      for (Man m : men) w.men.add(m.clone());
      for (int k = 0; k < 2; k++) {
        w.boots[k].wearer = boots[k].wearer;
        w.boots[k].lies = boots[k].lies;
        w.boots[k].worn = boots[k].worn;
      }
      w.hour = hour;
      w.day = day;
      w.spent = spent;
      return w;
    }

    int where(Boot b) {
      return b.wearer == NONE ? b.lies : men.get(b.wearer).place;
    }

    int wears(Man m) {
      int n = m.second ? 2 : 0;
      for (Boot b : boots) if (b.wearer == m.number) n++;
      return n;
    }

    World dressed(int who) {
      World w = copy();
      for (Boot b : w.boots) {
        b.wearer = who;
        b.lies = 0;
      }
      return w;
    }

    Want next(Man m) {
      Want best = null;
      for (Want w : lane.wants) {
        if (w.brother != m.number || w.hour < hour) continue;
        if (best == null || w.hour < best.hour) best = w;
      }
      return best;
    }

    long word(String word, Man m, boolean frost) {
      Want w = next(m);
      switch (word) {
        case "brother": return m.number;
        case "place": return m.place;
        case "home": return m.home;
        case "size": return m.size;
        case "hour": return hour;
        case "day": return day;
        case "goal": return w == null ? m.home : w.place;
        case "pay": return w == null ? 0 : w.pay;
        case "until": return w == null ? 0 : w.hour - hour;
        case "wet": return lane.wet[m.place];
        case "frost": return frost ? 1 : 0;
        case "boots": return wears(m);
        case "chill": return m.chill;
        case "others": return men.stream().filter(o -> o != m && o.place == m.place).count();
        case "lying":
          return Arrays.stream(boots).filter(b -> b.wearer == NONE && b.lies == m.place).count();
        default: throw new AssertionError(word);
      }
    }

    int hour(boolean drawn) {
      boolean frost = drawn || lane.frosts.stream().anyMatch(f -> f[0] <= hour && hour <= f[1]);
      int sum = 0;
      for (Want w : lane.wants) {
        Man m = men.get(w.brother);
        if (w.hour == hour && m.place == w.place && !m.frozen) {
          m.earned += w.pay;
          sum += w.pay;
        }
      }
      for (Man m : men) if (!m.frozen) walk(m, frost);
      for (Man m : men) cool(m, frost);
      if (++hour == 24) {
        hour = 0;
        day = Math.min(999, day + 1);
        for (Man m : men) {
          m.place = m.home;
          m.chill = 0;
          m.frozen = false;
        }
      }
      return sum;
    }

    void walk(Man m, boolean frost) {
      long way = 0;
      if (inForce == NONE) {
        way = word("goal", m, frost) - m.place;
      } else {
        for (Clause c : rules.get(inForce)) {
          Words words = word -> word(word, m, frost);
          if (c.test == null || c.test.test(words)) {
            way = c.sum.applyAsLong(words);
            break;
          }
        }
      }
      int to = way < 0 ? m.place - 1 : way > 0 ? m.place + 1 : m.place;
      if (to < 0 || to > lane.places - 1 || to == m.place) return;
      m.place = to;
      for (Boot b : boots) if (b.wearer == m.number) b.worn = Math.min(999, b.worn + (frost ? 2 : 1));
    }

    void cool(Man m, boolean frost) {
      if (m.place == m.home) {
        m.chill = Math.max(0, m.chill - 4);
      } else {
        for (Boot b : boots) {
          boolean dry = m.second || b.wearer == m.number && b.worn < lane.sole;
          if (!dry) m.chill = Math.min(99, m.chill + lane.wet[m.place] * (frost ? 2 : 1));
        }
      }
      if (m.chill >= 60 && !m.frozen) {
        m.frozen = true;
        froze++;
      }
    }

    int hours(int n) {
      int sum = 0;
      for (int i = 0; i < n; i++) sum += hour(false);
      return sum;
    }

    int earned() {
      return men.stream().mapToInt(m -> m.earned).sum();
    }
  }

  World first() {
    World w = new World();
    for (int[] b : lane.brothers) {
      Man m = new Man();
      m.number = w.men.size();
      m.home = b[0];
      m.place = b[0];
      m.size = b[1];
      w.men.add(m);
    }
    for (Boot b : w.boots) b.lies = lane.bootsAt;
    return w;
  }

  // ---- the object --------------------------------------------------------------------------

  static final class Print {
    int n, place, boots;
    boolean is;
  }

  final class Picture {
    Lane lane;
    World world;
    List<Print> prints;
    int inForce, x;
  }

  StringBuilder tape = new StringBuilder();
  List<List<Clause>> rules = new ArrayList<>();
  int inForce = NONE;
  Lane lane = null;
  World world = null;
  List<Print> prints = new ArrayList<>();
  LinkedList<World> past = new LinkedList<>();
  Picture[] pictures = new Picture[4];
  int x = 0;

  int feed(int a, int b, int c, int d, int e) {
    if (tape.length() + 20 > 400) return NONE;
    for (int v : new int[] {a, b, c, d, e}) {
      tape.append((char) (v >>> 24)).append((char) (v >>> 16 & 255));
      tape.append((char) (v >>> 8 & 255)).append((char) (v & 255));
    }
    return tape.length();
  }

  int end(int n) {
    if (n < 0 || n > tape.length()) return NONE;
    tape.setLength(n);
    return n;
  }

  int lane() {
    String text = tape.toString();
    tape.setLength(0);
    try {
      lane = new LaneText(text).lane;
    } catch (Fault f) {
      return -2 - f.code;
    }
    world = first();
    prints.clear();
    past.clear();
    return lane.brothers.size();
  }

  int rule() {
    if (rules.size() == 6) return NONE;
    String text = tape.toString();
    tape.setLength(0);
    try {
      rules.add(new RuleText(text).clauses);
    } catch (Fault f) {
      return -2 - f.code;
    }
    return rules.size() - 1;
  }

  int force(int rule) {
    if (rule != NONE && (rule < 0 || rule >= rules.size())) return -2;
    int was = inForce;
    inForce = rule;
    return was;
  }

  boolean man(int b) {
    return lane != null && b >= 0 && b < world.men.size();
  }

  static boolean in(int v, int least, int most) {
    return least <= v && v <= most;
  }

  int brother(int b, int what) {
    if (!man(b)) return NONE;
    Man m = world.men.get(b);
    int bits = 0;
    for (int k = 0; k < 2; k++) if (world.boots[k].wearer == b) bits |= 1 << k;
    switch (what) {
      case 0: return m.place;
      case 1: return m.home;
      case 2: return m.size;
      case 3: return m.chill;
      case 4: return m.frozen ? 1 : 0;
      case 5: return bits;
      case 6: return m.earned;
      case 7: return (int) world.word("goal", m, false);
      default: return NONE;
    }
  }

  int boot(int k, int what) {
    if (lane == null || !in(k, 0, 1)) return -2;
    Boot b = world.boots[k];
    switch (what) {
      case 0: return b.wearer;
      case 1: return world.where(b);
      case 2: return b.worn;
      case 3: return b.worn >= lane.sole ? 1 : 0;
      default: return -2;
    }
  }

  int wet(int place) {
    return lane != null && in(place, 0, lane.places - 1) ? lane.wet[place] : NONE;
  }

  void act() {
    past.addLast(world.copy());
    if (past.size() > 20) past.removeFirst();
  }

  int hour() {
    if (lane == null || world.hour == 23 && world.day == 999) return NONE;
    act();
    return world.hour(false);
  }

  int wear(int k, int b) {
    if (!man(b) || !in(k, 0, 1)) return -2;
    Boot boot = world.boots[k];
    Man m = world.men.get(b);
    if (m.size > lane.size || boot.wearer == b || world.where(boot) != m.place) return -2;
    act();
    int was = boot.wearer;
    boot.wearer = b;
    return was;
  }

  int off(int k) {
    if (lane == null || !in(k, 0, 1) || world.boots[k].wearer == NONE) return NONE;
    act();
    Boot boot = world.boots[k];
    boot.lies = world.men.get(boot.wearer).place;
    boot.wearer = NONE;
    return boot.lies;
  }

  int cobble(int k) {
    if (lane == null || !in(k, 0, 1) || world.boots[k].worn == 0) return NONE;
    if (world.earned() - world.spent < 10) return NONE;
    act();
    world.boots[k].worn = 0;
    world.spent += 10;
    return world.earned() - world.spent;
  }

  int undo() {
    if (past.isEmpty()) return NONE;
    world = past.removeLast();
    return past.size();
  }

  int ahead(int b, int n, int what) {
    if (!man(b) || !in(n, 0, 96) || !in(what, 0, 2)) return NONE;
    World w = world.copy();
    w.hours(n);
    Man m = w.men.get(b);
    return new int[] {m.place, m.chill, m.earned}[what];
  }

  List<Integer> fitting() {
    List<Integer> all = new ArrayList<>();
    for (Man m : world.men) if (m.size <= lane.size) all.add(m.number);
    return all;
  }

  int[] lent(List<Integer> to, int n) {
    int[] best = {NONE, world.dressed(NONE).hours(n)};
    for (int b : to) {
      int e = world.dressed(b).hours(n);
      if (e > best[1]) best = new int[] {b, e};
    }
    return best;
  }

  int lend(int n, int what) {
    if (lane == null || !in(n, 1, 24) || !in(what, 0, 1)) return -2;
    return lent(fitting(), n)[what];
  }

  int worth(int b, int n) {
    if (!man(b) || !in(n, 1, 24)) return NONE;
    List<Integer> others = fitting();
    others.remove(Integer.valueOf(b));
    return lent(fitting(), n)[1] - lent(others, n)[1];
  }

  int bids(int n) {
    if (lane == null || !in(n, 1, 24)) return NONE;
    List<Integer> all = new ArrayList<>();
    int base = world.dressed(NONE).hours(n);
    for (int b : fitting()) all.add(world.dressed(b).hours(n) - base);
    all.sort(null);
    return all.size() < 2 ? 0 : Math.max(0, all.get(all.size() - 2));
  }

  int relay(int n, int what) {
    if (lane == null || !in(n, 1, 4) || !in(what, 0, 4)) return -3;
    if (what > n) return -2;
    int names = world.men.size() + 1;
    int rows = 1;
    for (int i = 0; i < n; i++) rows *= names;
    int bestEarned = -1;
    int bestChill = 0;
    int[] best = null;
    for (int r = 0; r < rows; r++) {
      int[] row = new int[n];
      int left = r;
      for (int i = n - 1; i >= 0; i--) {
        row[i] = left % names - 1;
        left /= names;
      }
      World w = world.copy();
      int e = 0;
      for (int name : row) {
        if (name != NONE && w.men.get(name).size <= lane.size) {
          for (Boot b : w.boots) if (w.where(b) == w.men.get(name).place) b.wearer = name;
        }
        e += w.hour(false);
      }
      int chill = w.men.stream().mapToInt(m -> m.chill).sum();
      if (e > bestEarned || e == bestEarned && chill < bestChill) {
        bestEarned = e;
        bestChill = chill;
        best = row;
      }
    }
    return what == 0 ? bestEarned : best[what - 1];
  }

  int print(int n, int place, int boots, boolean is) {
    if (n == NONE) {
      prints.clear();
      return 0;
    }
    if (lane == null || !in(n, 0, 47) || !in(place, 0, lane.places - 1) || !in(boots, 0, 2)) return -2;
    if (prints.size() == 10) return -2;
    Print p = new Print();
    p.n = n;
    p.place = place;
    p.boots = boots;
    p.is = is;
    prints.add(p);
    return prints.size();
  }

  List<Integer> soles() {
    List<Integer> all = new ArrayList<>(List.of(NONE));
    all.addAll(fitting());
    all.removeIf(who -> {
      for (Print p : prints) {
        World w = first().dressed(who);
        w.hours(p.n);
        boolean is = w.men.stream().anyMatch(m -> m.place == p.place && w.wears(m) == p.boots);
        if (is != p.is) return true;
      }
      return false;
    });
    return all;
  }

  int feet(int what) {
    if (lane == null || !in(what, 0, 1)) return -3;
    List<Integer> all = soles();
    return what == 0 ? all.size() : all.isEmpty() ? -2 : all.get(0);
  }

  int look(int n, int what) {
    if (lane == null || !in(n, 0, 47) || !in(what, 0, 1)) return NONE;
    List<Integer> all = soles();
    if (all.isEmpty()) return -2;
    int[] best = {0, 99};
    for (int p = 0; p < lane.places; p++) {
      Map<Integer, Integer> kinds = new HashMap<>();
      int place = p;
      for (int who : all) {
        World w = first().dressed(who);
        w.hours(n);
        int seen = w.men.stream().filter(m -> m.place == place).mapToInt(w::wears).max().orElse(-1);
        kinds.merge(seen, 1, Integer::sum);
      }
      int most = kinds.values().stream().max(Integer::compare).get();
      if (most < best[1]) best = new int[] {p, most};
    }
    return best[what];
  }

  int cobbler(int k, int n, int w, int c, int f, int what) {
    if (lane == null || !in(k, 0, 1) || !in(n, 1, 30) || !in(what, 0, 1)) return -2;
    if (!in(w, 0, 99) || !in(c, 0, 99) || !in(f, 0, 99)) return -2;
    int[] best = way(0, n, world.boots[k].worn, w, c, f, new HashMap<>());
    return what == 0 ? best[0] : best[1] == n ? NONE : best[1];
  }

  /** The least cost from a DAY on, and of the ways that cost it the latest first DAY (n: never). */
  int[] way(int day, int n, int worn, int w, int c, int f, Map<Long, int[]> known) {
    if (day == n) return new int[] {0, n};
    long key = day * 1000000L + worn;
    if (known.containsKey(key)) return known.get(key);
    int[] skip = way(day + 1, n, worn + w, w, c, f, known);
    int[] cobbled = way(day + 1, n, w, w, c, f, known);
    int skipCost = skip[0] + (worn + w >= lane.sole ? f : 0);
    int cobbledCost = cobbled[0] + c + (w >= lane.sole ? f : 0);
    int first = skipCost < cobbledCost ? skip[1] : cobbledCost < skipCost ? day : Math.max(skip[1], day);
    int[] best = {Math.min(skipCost, cobbledCost), first};
    known.put(key, best);
    return best;
  }

  int second(int size, int n, int what) {
    if (lane == null || !in(size, 0, 9) || !in(n, 1, 24) || !in(what, 0, 1)) return -100000;
    int base = world.copy().hours(n);
    int best = Integer.MIN_VALUE;
    int who = -2;
    for (Man m : world.men) {
      if (m.size > size || world.wears(m) > 0) continue;
      World w = world.copy();
      w.men.get(m.number).second = true;
      int e = w.hours(n) - base;
      if (e > best) {
        best = e;
        who = m.number;
      }
    }
    return what == 1 ? who : who == -2 ? 0 : best;
  }

  int seed(int to) {
    if (to < 0) return NONE;
    int was = x;
    x = to;
    return was;
  }

  int winters(int m, int n, int p, int what) {
    if (lane == null || !in(m, 1, 10) || !in(n, 1, 72) || !in(p, 0, 100) || !in(what, 0, 1)) return NONE;
    long draws = x;
    int e = 0;
    int froze = 0;
    for (int i = 0; i < m; i++) {
      World w = world.copy();
      for (int j = 0; j < n; j++) {
        draws = (draws * 1103515245L + 12345L) % 2147483648L;
        e += w.hour(draws / 65536 % 100 < p);
      }
      froze += w.froze;
    }
    return what == 0 ? e : froze;
  }

  int count(int what) {
    boolean none = lane == null;
    switch (what) {
      case 0: return none ? 0 : lane.places;
      case 1: return none ? NONE : lane.size;
      case 2: return none ? 0 : lane.brothers.size();
      case 3: return none ? 0 : lane.frosts.size();
      case 4: return none ? 0 : lane.wants.size();
      case 5: return rules.size();
      case 6: return inForce;
      case 7: return none ? 0 : world.hour;
      case 8: return none ? 0 : world.day;
      case 9: return none ? 0 : world.earned();
      case 10: return none ? 0 : world.spent;
      case 11: return prints.size();
      case 12: return past.size();
      case 13: return x;
      case 14: return tape.length();
      case 15: return none ? NONE : lane.sole;
      default: return NONE;
    }
  }

  int image(int k) {
    if (!in(k, 0, 3)) return NONE;
    Picture p = new Picture();
    p.lane = lane;
    p.world = world == null ? null : world.copy();
    p.prints = new ArrayList<>(prints);
    p.inForce = inForce;
    p.x = x;
    pictures[k] = p;
    return count(8);
  }

  int back(int k) {
    if (!in(k, 0, 3) || pictures[k] == null) return NONE;
    Picture p = pictures[k];
    lane = p.lane;
    world = p.world == null ? null : p.world.copy();
    prints = new ArrayList<>(p.prints);
    inForce = p.inForce;
    x = p.x;
    past.clear();
    return count(8);
  }
}
