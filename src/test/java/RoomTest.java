import java.lang.management.ManagementFactory;
import java.lang.reflect.Array;
import java.lang.reflect.Field;
import java.lang.reflect.Modifier;
import java.util.ArrayDeque;
import java.util.Collections;
import java.util.Deque;
import java.util.IdentityHashMap;
import java.util.Set;

/** How much room an object takes: little, and none by what is asked. */
public final class RoomTest {
  private static final String LANE = "lane 5 6;brother 0 4;brother 0 6;brother 0 2;brother 0 3;brother 0 1;brother 0 0;"
      + "wet 2 8;wet 3 5;wet 1 2;frost 2 3;want 0 3 3 10;want 1 2 2 7;want 1 0 6 9;want 2 3 4 5;sole 4;boots 0";
  private static final String RULE = "walk 0 - 1 if chill > 10 and not [ boots = 2 or others < 1 ];walk goal - place";
  private static int wrong = 0;

  private static void most(String what, long got, long most) {
    if (got > most) {
      wrong++;
      System.out.println(what + " is " + got + ", at most " + most + " is due");
    }
  }

  private static void put(OneBoots o, String text) {
    for (int from = 0; from < text.length(); from += 20) {
      int[] v = new int[5];
      for (int i = 0; i < 20; i++) v[i / 4] = v[i / 4] << 8 | (from + i < text.length() ? text.charAt(from + i) : 0);
      o.feed(v[0], v[1], v[2], v[3], v[4]);
    }
    o.end(text.length());
  }

  public static void main(String[] args) throws IllegalAccessException {
    OneBoots o = new OneBoots();
    long[] fresh = room(o);
    most("objects of a new one", fresh[0], 60);
    most("fields and elements of a new one", fresh[1], 2300);
    for (int i = 0; i < 6; i++) {
      put(o, RULE);
      o.rule();
    }
    for (int i = 0; i < 4; i++) o.image(i);
    put(o, LANE);
    o.lane();
    o.force(0);
    long[] full = room(o);
    most("objects of a full one", full[0], 130);
    most("fields and elements of a full one", full[1], 4000);
    com.sun.management.ThreadMXBean threads =
        (com.sun.management.ThreadMXBean) ManagementFactory.getThreadMXBean();
    long id = Thread.currentThread().getId();
    askAll(o);
    threads.getThreadAllocatedBytes(id);
    long before = threads.getThreadAllocatedBytes(id);
    for (int i = 0; i < 100; i++) askAll(o);
    most("bytes made by what is asked", threads.getThreadAllocatedBytes(id) - before, 5000);
    System.out.println(wrong == 0 ? "room enough: " + full[0] + " objects, " + full[1] + " fields and elements" : "no room");
    if (wrong != 0) System.exit(1);
  }

  private static void askAll(OneBoots o) {
    o.hour();
    o.wear(0, 1);
    o.off(0);
    o.cobble(0);
    o.undo();
    o.ahead(0, 96, 0);
    o.lend(24, 0);
    o.worth(0, 24);
    o.bids(24);
    o.relay(4, 0);
    o.print(3, 1, 0, true);
    o.feet(0);
    o.look(47, 0);
    o.cobbler(0, 30, 3, 9, 9, 0);
    o.second(9, 24, 0);
    o.winters(2, 72, 50, 0);
    o.image(1);
    o.back(1);
    o.lane();
    o.rule();
  }

  private static long[] room(Object root) throws IllegalAccessException {
    Set<Object> seen = Collections.newSetFromMap(new IdentityHashMap<>());
    Deque<Object> open = new ArrayDeque<>();
    open.add(root);
    seen.add(root);
    long parts = 0;
    while (!open.isEmpty()) {
      Object o = open.remove();
      if (o.getClass().isArray()) {
        parts += Array.getLength(o);
        if (o instanceof Object[]) for (Object e : (Object[]) o) if (e != null && seen.add(e)) open.add(e);
        continue;
      }
      for (Field f : o.getClass().getDeclaredFields()) {
        if (Modifier.isStatic(f.getModifiers())) continue;
        parts++;
        if (f.getType().isPrimitive()) continue;
        f.setAccessible(true);
        Object e = f.get(o);
        if (e != null && seen.add(e)) open.add(e);
      }
    }
    return new long[] {seen.size(), parts};
  }
}
