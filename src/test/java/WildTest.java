import java.lang.reflect.InvocationTargetException;
import java.lang.reflect.Method;
import java.lang.reflect.Modifier;
import java.util.Arrays;
import java.util.Comparator;
import java.util.Random;

/** LANGUAGE.md 7 and 13: no call throws, for any arguments in any state, and the same calls answer the same. */
public final class WildTest {
  private static final int RUNS = Integer.getInteger("runs", 400);
  // Beyond the 512 calls answers are free, but nothing may be thrown there either.
  private static final int CALLS = 900;
  private static final int[] FAR = {Integer.MIN_VALUE, Integer.MIN_VALUE + 1, -100000, -3, -2, 400, 401, 65536,
      Integer.MAX_VALUE - 1, Integer.MAX_VALUE};
  private static final Method[] CALL = Arrays.stream(OneBoots.class.getDeclaredMethods())
      .filter(m -> Modifier.isPublic(m.getModifiers())).sorted(Comparator.comparing(Method::getName))
      .toArray(Method[]::new);

  private final Random random;
  private final Texts texts;
  private final OneBoots one = new OneBoots();
  private final OneBoots other = new OneBoots();

  private WildTest(long seed) {
    random = new Random(seed);
    texts = new Texts(random);
  }

  public static void main(String[] args) throws IllegalAccessException {
    int wrong = 0;
    for (int run = 0; run < RUNS && wrong < 3; run++) {
      String what = new WildTest(run).run();
      if (what != null) {
        wrong++;
        System.out.println("run " + run + ": " + what);
      }
    }
    System.out.println(wrong == 0 ? RUNS * CALLS + " wild calls, nothing thrown" : "wild calls went wrong");
    if (wrong != 0) System.exit(1);
  }

  private String run() throws IllegalAccessException {
    for (int i = 0; i < CALLS; i++) {
      boolean tells = i == 0 || random.nextInt(30) == 0;
      String what = tells ? tell() : call(CALL[random.nextInt(CALL.length)]);
      if (what != null) return what;
    }
    return null;
  }

  /** A text, good or not, as a LANE or as a RULE. */
  private String tell() throws IllegalAccessException {
    String text = random.nextBoolean() ? texts.lane() : random.nextBoolean() ? texts.rule() : texts.edge();
    if (random.nextInt(3) == 0) text = texts.spoilt(text);
    int n = Math.min(text.length(), 400);
    one.end(0);
    other.end(0);
    for (int from = 0; from < n; from += 20) {
      int[] v = new int[5];
      for (int k = 0; k < 20; k++) v[k / 4] = v[k / 4] << 8 | (from + k < n ? text.charAt(from + k) & 255 : 0);
      if (one.feed(v[0], v[1], v[2], v[3], v[4]) != other.feed(v[0], v[1], v[2], v[3], v[4])) return "feed";
    }
    if (one.end(n) != other.end(n)) return "end";
    boolean isLane = text.startsWith("lane") || random.nextInt(10) == 0;
    return (isLane ? one.lane() != other.lane() : one.rule() != other.rule()) ? "text " + text : null;
  }

  private String call(Method m) throws IllegalAccessException {
    Object[] with = new Object[m.getParameterCount()];
    for (int k = 0; k < with.length; k++) {
      with[k] = m.getParameterTypes()[k] == boolean.class ? (Object) random.nextBoolean() : (Object) number();
    }
    String told = m.getName() + Arrays.toString(with);
    try {
      Object a = m.invoke(one, with);
      return a.equals(m.invoke(other, with)) ? null : told + " answers otherwise the second time";
    } catch (InvocationTargetException e) {
      return told + " threw " + e.getCause();
    }
  }

  private int number() {
    int k = random.nextInt(16);
    if (k == 0) return FAR[random.nextInt(FAR.length)];
    if (k == 1) return random.nextInt();
    if (k < 5) return random.nextInt(110) - 5;
    return random.nextInt(k < 10 ? 3 : 26) - (k == 5 ? 1 : 0);
  }
}
