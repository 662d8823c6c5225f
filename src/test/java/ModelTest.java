import java.util.ArrayList;
import java.util.List;
import java.util.Map;
import java.util.Random;
import java.util.TreeMap;

/** Random runs of calls on the program and on PlainBoots, which must answer alike. */
public final class ModelTest {
  private static final int RUNS = Integer.getInteger("runs", 1500);
  private static final int CALLS = 512;
  private final Random random;
  private final Texts texts;
  private final OneBoots program = new OneBoots();
  private final PlainBoots plain = new PlainBoots();
  private final List<String> log = new ArrayList<>();
  private static final Map<String, Map<Integer, Integer>> seen = new TreeMap<>();
  private boolean wrong = false;

  private ModelTest(long seed) {
    random = new Random(seed);
    texts = new Texts(random);
  }

  public static void main(String[] args) {
    int bad = 0;
    for (int run = 0; run < RUNS && bad < 3; run++) {
      ModelTest test = new ModelTest(run);
      test.run();
      if (test.wrong) {
        bad++;
        System.out.println("run " + run + ":");
        test.log.forEach(System.out::println);
      }
    }
    if (Boolean.getBoolean("stats")) {
      seen.forEach((name, answers) -> {
        int all = answers.values().stream().mapToInt(i -> i).sum();
        System.out.println(name + ": " + all + " calls, " + answers.size() + " answers, " + top(answers));
      });
    }
    System.out.println(bad == 0 ? RUNS + " runs as the plain model" : "runs unlike the plain model");
    if (bad != 0) System.exit(1);
  }

  private static String top(Map<Integer, Integer> answers) {
    StringBuilder s = new StringBuilder();
    answers.entrySet().stream().sorted((a, b) -> b.getValue() - a.getValue()).limit(9)
        .forEach(e -> s.append(e.getKey()).append("x").append(e.getValue()).append(' '));
    return s.toString();
  }

  private int up(int n) {
    return random.nextInt(n);
  }

  /** Mostly from the least to the most, now and then just beside, or far away. */
  private int near(int least, int most) {
    int k = up(40);
    if (k == 0) return least - 1;
    if (k == 1) return most + 1;
    if (k == 2) return new int[] {Integer.MIN_VALUE, Integer.MAX_VALUE, -2, -3, 1000}[up(5)];
    return least + up(most - least + 1);
  }

  private void same(String call, int got, int due) {
    String name = call.substring(0, call.indexOf('('));
    seen.computeIfAbsent(name, k -> new TreeMap<>()).merge(due, 1, Integer::sum);
    log.add("  " + call + " answered " + got + (got == due ? "" : ", the plain model " + due));
    if (got != due) wrong = true;
  }

  private void text(String t) {
    int n = Math.min(400, t.length());
    for (int from = 0; from < n; from += 20) {
      int[] v = new int[5];
      for (int i = 0; i < 20; i++) {
        int c = from + i < n ? t.charAt(from + i) : up(256);
        v[i / 4] = v[i / 4] << 8 | c;
      }
      feed(v[0], v[1], v[2], v[3], v[4]);
    }
    end(n);
  }

  private void feed(int a, int b, int c, int d, int e) {
    same("feed(" + a + ", " + b + ", " + c + ", " + d + ", " + e + ")", program.feed(a, b, c, d, e),
        plain.feed(a, b, c, d, e));
  }

  private void end(int n) {
    same("end(" + n + ")", program.end(n), plain.end(n));
  }

  private void lane() {
    same("lane()", program.lane(), plain.lane());
  }

  private void rule() {
    same("rule()", program.rule(), plain.rule());
  }

  private void force(int k) {
    same("force(" + k + ")", program.force(k), plain.force(k));
  }

  private void run() {
    if (up(20) > 0) goodLane();
    if (up(2) > 0) {
      text(texts.rule());
      rule();
      force(0);
    }
    while (log.size() < CALLS - 30 && !wrong) step();
    for (int what = -1; what <= 16; what++) same("count(" + what + ")", program.count(what), plain.count(what));
  }

  private void goodLane() {
    text(texts.lane());
    lane();
  }

  private void step() {
    int k = up(200);
    if (k < 4) tell();
    else if (k < 64) act();
    else if (k < 110) state();
    else if (k < 180) ask();
    else keep();
  }

  private void tell() {
    end(0);
    switch (up(8)) {
      case 0: goodLane(); break;
      case 1: text(texts.spoilt(texts.lane())); lane(); break;
      case 2: text(texts.spoilt(texts.rule())); rule(); break;
      case 3: text(texts.rule()); rule(); break;
      case 4: text(texts.edge()); rule(); break;
      case 5: text(texts.edge()); lane(); break;
      case 6: feed(up(9), up(9), up(9), random.nextInt(), random.nextInt()); end(near(0, 25)); break;
      default: rule();
    }
    if (up(2) == 0) force(near(-1, 5));
  }

  private void act() {
    int boot = near(0, 1);
    int b = near(0, 5);
    switch (up(9)) {
      case 0: same("wear(" + boot + ", " + b + ")", program.wear(boot, b), plain.wear(boot, b)); break;
      case 1: same("off(" + boot + ")", program.off(boot), plain.off(boot)); break;
      case 2: same("cobble(" + boot + ")", program.cobble(boot), plain.cobble(boot)); break;
      case 3: if (up(3) == 0) same("undo()", program.undo(), plain.undo()); break;
      case 4: wearHere(up(2)); break;
      default: same("hour()", program.hour(), plain.hour());
    }
  }

  /** Some BROTHER who is where the boot is puts it on, if he can. */
  private void wearHere(int boot) {
    int place = plain.boot(boot, 1);
    for (int b = 0; b < 6; b++) {
      if (plain.brother(b, 0) == place) same("wear(" + boot + ", " + b + ")", program.wear(boot, b), plain.wear(boot, b));
    }
  }

  private void state() {
    int a = near(0, 5);
    int what = near(0, 7);
    switch (up(5)) {
      case 0: same("boot(" + a % 3 + ", " + what + ")", program.boot(a % 3, what), plain.boot(a % 3, what)); break;
      case 1: same("wet(" + what + ")", program.wet(what), plain.wet(what)); break;
      case 2: int c = near(0, 15); same("count(" + c + ")", program.count(c), plain.count(c)); break;
      default: same("brother(" + a + ", " + what + ")", program.brother(a, what), plain.brother(a, what));
    }
  }

  private void ask() {
    int what = near(0, 1);
    int b = near(0, 5);
    int n = near(1, 24);
    switch (up(12)) {
      case 0: int h = near(0, 96); int w3 = near(0, 2);
        same("ahead(" + b + ", " + h + ", " + w3 + ")", program.ahead(b, h, w3), plain.ahead(b, h, w3)); break;
      case 1: same("lend(" + n + ", " + what + ")", program.lend(n, what), plain.lend(n, what)); break;
      case 2: same("worth(" + b + ", " + n + ")", program.worth(b, n), plain.worth(b, n)); break;
      case 3: same("bids(" + n + ")", program.bids(n), plain.bids(n)); break;
      case 4: int r = up(4) > 0 ? near(1, 2) : near(1, 4); int w5 = near(0, 4);
        same("relay(" + r + ", " + w5 + ")", program.relay(r, w5), plain.relay(r, w5)); break;
      case 5: case 6: askPrints(what); break;
      case 7: case 8: askCobbler(what); break;
      case 9: int size = near(0, 9);
        same("second(" + size + ", " + n + ", " + what + ")", program.second(size, n, what), plain.second(size, n, what)); break;
      default: int m = near(1, 10); int t = near(1, 72); int p = near(0, 100);
        same("winters(" + m + ", " + t + ", " + p + ", " + what + ")", program.winters(m, t, p, what),
            plain.winters(m, t, p, what));
    }
  }

  private void askCobbler(int what) {
    int boot = near(0, 1);
    int n = near(1, 30);
    int w = up(2) == 0 ? up(9) : near(0, 99);
    int c = up(2) == 0 ? up(9) : near(0, 99);
    int f = up(2) == 0 ? up(9) : near(0, 99);
    same("cobbler(" + boot + ", " + n + ", " + w + ", " + c + ", " + f + ", " + what + ")",
        program.cobbler(boot, n, w, c, f, what), plain.cobbler(boot, n, w, c, f, what));
  }

  private void askPrints(int what) {
    int n = near(0, 47);
    int place = near(0, 6);
    int boots = near(0, 2);
    boolean is = up(3) == 0;
    switch (up(5)) {
      case 0: print(n, place, boots, is); break;
      case 1: if (up(4) == 0) print(-1, place, boots, is); break;
      case 2: same("feet(" + what + ")", program.feet(what), plain.feet(what)); break;
      default: same("look(" + n + ", " + what + ")", program.look(n, what), plain.look(n, what));
    }
  }

  private void print(int n, int place, int boots, boolean is) {
    same("print(" + n + ", " + place + ", " + boots + ", " + is + ")", program.print(n, place, boots, is),
        plain.print(n, place, boots, is));
  }

  private void keep() {
    int k = near(0, 3);
    switch (up(12)) {
      case 0: same("image(" + k + ")", program.image(k), plain.image(k)); break;
      case 1: same("back(" + k + ")", program.back(k), plain.back(k)); break;
      case 2: force(near(-1, 2)); break;
      case 3: int x = up(3) == 0 ? near(0, 3) : random.nextInt(); same("seed(" + x + ")", program.seed(x), plain.seed(x)); break;
      case 4: case 5: same("undo()", program.undo(), plain.undo()); break;
      default: same("hour()", program.hour(), plain.hour());
    }
  }
}
