import java.io.IOException;
import java.lang.reflect.InvocationTargetException;
import java.lang.reflect.Method;
import java.nio.file.Files;
import java.nio.file.Path;
import java.util.ArrayList;
import java.util.Arrays;
import java.util.BitSet;
import java.util.Comparator;
import java.util.List;

/**
 * Runs every test of the edges: each is named after the promise it belongs to and quotes the words of DOC.md that
 * name the edge. -Dgaps=true tells which words of the document no test quotes.
 */
public final class EdgesTest {
  private static final int PROMISES = 29;
  private static final List<Class<?>> ALL =
      List.of(EdgesOfTexts.class, EdgesOfHours.class, EdgesOfAsking.class, EdgesOfKeeping.class);
  private static final Path DOC = Path.of("../shared/DOC.md");

  public static void main(String[] args) throws IOException, IllegalAccessException {
    String doc = Files.isReadable(DOC) ? plain(Files.readString(DOC)) : "";
    BitSet quoted = new BitSet();
    int[] tests = new int[PROMISES + 1];
    int number = 0;
    for (Method m : methods()) {
      tests[promiseOf(m)]++;
      number++;
      for (String words : m.getAnnotation(Says.class).value()) quote(m, doc, plain(words), quoted);
      run(m);
    }
    for (int p = 1; p <= PROMISES; p++) {
      if (tests[p] == 0) {
        Edge.wrong++;
        System.out.println("promise " + p + " has no test of its edges");
      }
    }
    if (Boolean.getBoolean("gaps")) gaps(doc, quoted);
    System.out.println(number + " tests of edges, " + Edge.asked + " answers asked, " + Edge.wrong + " wrong");
    if (Edge.wrong != 0) System.exit(1);
  }

  private static List<Method> methods() {
    List<Method> all = new ArrayList<>();
    for (Class<?> c : ALL) {
      for (Method m : c.getDeclaredMethods()) if (m.isAnnotationPresent(Says.class)) all.add(m);
    }
    all.sort(Comparator.comparing(Method::getName));
    return all;
  }

  private static int promiseOf(Method m) {
    if (!m.getName().matches("promise\\d\\d_\\w+")) throw new IllegalStateException("name of " + m.getName());
    return Integer.parseInt(m.getName().substring(7, 9));
  }

  private static void run(Method m) throws IllegalAccessException {
    Edge.test = m.getName();
    int before = Edge.asked;
    try {
      m.invoke(null);
    } catch (InvocationTargetException e) {
      Edge.wrong++;
      System.out.println(m.getName() + " threw " + e.getCause());
      Arrays.stream(e.getCause().getStackTrace()).limit(4).forEach(System.out::println);
    }
    if (Edge.asked == before) {
      Edge.wrong++;
      System.out.println(m.getName() + " asks nothing");
    }
  }

  private static String plain(String text) {
    return text.replaceAll("\\s+", " ");
  }

  /** A document that has been changed since is told, not failed: what counts is what the class answers. */
  private static void quote(Method m, String doc, String words, BitSet quoted) {
    int at = doc.indexOf(words);
    if (at < 0 && !doc.isEmpty()) System.out.println(m.getName() + " quotes what DOC.md does not say: " + words);
    for (; at >= 0; at = doc.indexOf(words, at + 1)) quoted.set(at, at + words.length());
  }

  private static void gaps(String doc, BitSet quoted) {
    int from = Math.max(0, doc.indexOf("## Terms"));
    int to = doc.indexOf("## Not promised");
    for (int at = quoted.nextClearBit(from); at < to; at = quoted.nextClearBit(at)) {
      int end = quoted.nextSetBit(at);
      end = end < 0 || end > to ? to : end;
      String gap = doc.substring(at, end).trim();
      if (gap.matches(".*[a-zA-Z0-9].*")) System.out.println("not quoted: " + gap);
      at = end;
    }
  }
}
