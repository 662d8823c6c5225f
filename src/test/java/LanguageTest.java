import java.io.IOException;
import java.lang.reflect.Constructor;
import java.lang.reflect.Field;
import java.lang.reflect.Method;
import java.lang.reflect.Modifier;
import java.nio.file.Files;
import java.nio.file.Path;
import java.util.Arrays;
import java.util.List;
import java.util.Set;
import java.util.TreeSet;
import java.util.regex.Matcher;
import java.util.regex.Pattern;

/** What of LANGUAGE.md can be seen in the source's text and in the class's members. */
public final class LanguageTest {
  private static final List<String> FACE = List.of("feed", "end", "lane", "rule", "force", "brother", "boot", "wet",
      "hour", "wear", "off", "cobble", "undo", "ahead", "lend", "worth", "bids", "relay", "print", "feet", "look",
      "cobbler", "second", "seed", "winters", "count", "image", "back");
  private static int wrong = 0;

  private static void must(boolean so, String what) {
    if (!so) {
      wrong++;
      System.out.println("LANGUAGE.md: " + what);
    }
  }

  public static void main(String[] args) throws IOException {
    members();
    source();
    System.out.println(wrong == 0 ? "the language is kept" : wrong + " rules of the language are not kept");
    if (wrong != 0) System.exit(1);
  }

  private static void members() {
    Set<String> open = new TreeSet<>();
    for (Method m : OneBoots.class.getDeclaredMethods()) {
      if (Modifier.isPublic(m.getModifiers())) open.add(m.getName());
      else must(Modifier.isPrivate(m.getModifiers()) && !FACE.contains(m.getName()), "1: method " + m.getName());
      must(m.getParameterCount() <= 7, "11: parameters of " + m.getName());
    }
    must(open.equals(new TreeSet<>(FACE)), "1: the face is " + open);
    must(Modifier.isFinal(OneBoots.class.getModifiers()), "1: the class is final");
    for (Field f : OneBoots.class.getDeclaredFields()) {
      must(f.getName().equals("NONE") || Modifier.isPrivate(f.getModifiers()), "1: field " + f.getName());
    }
    for (Constructor<?> c : OneBoots.class.getDeclaredConstructors()) {
      must(c.getParameterCount() == 0 && Modifier.isPublic(c.getModifiers()), "1: the constructor");
    }
    Class<?>[] inner = OneBoots.class.getDeclaredClasses();
    must(inner.length + 1 <= 12, "11: classes " + (inner.length + 1));
    for (Class<?> c : inner) {
      must(Modifier.isStatic(c.getModifiers()), "2: class " + c.getName());
      must(Arrays.stream(c.getDeclaredFields()).filter(f -> !Modifier.isStatic(f.getModifiers())).count() <= 20,
          "11: fields of " + c.getName());
      for (Method m : c.getDeclaredMethods()) {
        must(!FACE.contains(m.getName()), "1: method " + c.getName() + "." + m.getName());
        must(m.getParameterCount() <= 7, "11: parameters of " + m.getName());
      }
    }
    for (Class<?> c : inner) statics(c);
    statics(OneBoots.class);
  }

  private static void statics(Class<?> c) {
    for (Field f : c.getDeclaredFields()) {
      if (!Modifier.isStatic(f.getModifiers())) continue;
      boolean plain = List.of(int.class, long.class, boolean.class, char.class, String.class).contains(f.getType());
      must(Modifier.isFinal(f.getModifiers()) && plain, "5: static " + f.getName());
    }
  }

  private static void source() throws IOException {
    String text = Files.readString(Path.of("src/main/java/OneBoots.java"));
    must(text.chars().allMatch(c -> c < 128), "3: signs of the source");
    String code = text.replaceAll("(?s)/\\*.*?\\*/", "").replaceAll("//[^\n]*", "")
        .replaceAll("\"(\\\\.|[^\"\\\\])*\"", "\"\"");
    for (String word : List.of("throw", "throws", "try", "catch", "finally", "synchronized", "assert", "package",
        "native", "protected", "volatile", "transient", "var", "yield", "hashCode", "toString", "double", "float")) {
      must(!Pattern.compile("\\b" + word + "\\b").matcher(code).find(), "3, 6: " + word);
    }
    must(!code.contains("->") && !code.contains("::") && !code.contains("Exact"), "2, 4: lambdas, Exact");
    Matcher imports = Pattern.compile("import ([\\w.]+);").matcher(code);
    while (imports.find()) must(imports.group(1).equals("java.util.Arrays"), "4: import " + imports.group(1));
    Matcher calls = Pattern.compile("\\b(Arrays|System|Math|Integer|Long)\\.(\\w+)").matcher(code);
    List<String> known = List.of("Arrays.fill", "Arrays.copyOf", "System.arraycopy", "Math.min", "Math.max",
        "Integer.bitCount", "Integer.compare", "Long.compare");
    while (calls.find()) must(known.contains(calls.group()), "4: " + calls.group());
    lengths(text);
  }

  private static void lengths(String text) {
    String[] lines = text.split("\n");
    Pattern head = Pattern.compile("^(    |        )[a-z].*\\) \\{$");
    for (int i = 0; i < lines.length; i++) {
      must(lines[i].length() <= 120, "line " + (i + 1) + " is long");
      Matcher m = head.matcher(lines[i]);
      if (!m.find()) continue;
      int end = i;
      while (end < lines.length && !lines[end].equals(m.group(1) + "}")) end++;
      must(end - i < 60, "11: the method at line " + (i + 1) + " has " + (end - i) + " lines");
    }
  }
}
