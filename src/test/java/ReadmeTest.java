import java.io.ByteArrayOutputStream;
import java.io.IOException;
import java.io.PrintStream;
import java.lang.reflect.Method;
import java.lang.reflect.Modifier;
import java.nio.charset.StandardCharsets;
import java.nio.file.Files;
import java.nio.file.Path;

/** README.md shows the example as it stands and what it prints, and names every call. */
public final class ReadmeTest {
  private static int wrong = 0;

  private static void must(boolean so, String what) {
    if (!so) {
      wrong++;
      System.out.println("README.md: " + what);
    }
  }

  public static void main(String[] args) throws IOException {
    String readme = Files.readString(Path.of("README.md"));
    String example = Files.readString(Path.of("src/test/java/Example.java"));
    must(readme.contains("```java\n" + example + "```\n"), "Example.java does not stand there as it is");
    must(readme.contains("```text\n" + printed() + "```\n"), "the example prints otherwise:\n" + printed());
    for (Method m : OneBoots.class.getDeclaredMethods()) {
      boolean open = Modifier.isPublic(m.getModifiers());
      must(!open || readme.contains("`" + m.getName() + "`"), m.getName() + " is not named");
    }
    System.out.println(wrong == 0 ? "README.md is as the class" : wrong + " places of README.md are wrong");
    if (wrong != 0) System.exit(1);
  }

  private static String printed() {
    PrintStream console = System.out;
    ByteArrayOutputStream caught = new ByteArrayOutputStream();
    System.setOut(new PrintStream(caught, true, StandardCharsets.UTF_8));
    Example.main(new String[0]);
    System.setOut(console);
    return caught.toString(StandardCharsets.UTF_8).replace("\r\n", "\n");
  }
}
