import java.lang.management.ManagementFactory;
import java.lang.reflect.Array;
import java.lang.reflect.Field;
import java.lang.reflect.Modifier;
import java.util.Collections;
import java.util.IdentityHashMap;
import java.util.Set;

/** How much room an object takes, and that only a WORD that comes makes new objects. */
public final class RoomTest {
  private static final int OBJECTS = 400;
  private static final int ELEMENTS = 5000;
  private static final int ROUNDS = 20;

  private final Set<Object> objects = Collections.newSetFromMap(new IdentityHashMap<>());
  private int elements = 0;

  public static void main(String[] args) throws IllegalAccessException {
    NineKeys x = new NineKeys();
    fits("a new object", x);
    fill(x);
    fits("a full object", x);
    Check.due("bytes that calls make without a word that comes", leastBytesOfARound(x), 0);
    int before = sizeOf(x);
    askAll(x);
    Check.due("objects that calls keep", sizeOf(x), before);
    Check.finish();
  }

  /** As many words, pairs, keys and newcomers as may be; the text and THE SPELT are full too. */
  private static void fill(NineKeys x) {
    for (int n = 0; n < 80; n++) {
      Check.due("word " + n, Check.add(x, Check.name(n) + "abcdefg", 1 + n), n);
    }
    Still.fillPairs(x, 150);
    Still.fillText(x, 79);
    for (int n = 0; n < 9; n++) {
      Check.third(x, "zyxwvutsr" + (char) ('a' + n));
    }
    Check.press(x, "111222333444");
    Check.spell(x, "zyxwvutsrz");
  }

  private static void fits(String name, NineKeys x) throws IllegalAccessException {
    RoomTest room = new RoomTest();
    room.walk(x);
    Check.due(name + " has " + room.objects.size() + " objects", room.objects.size() <= OBJECTS, true);
    Check.due(name + " has " + room.elements + " fields and elements", room.elements <= ELEMENTS, true);
  }

  private static int sizeOf(NineKeys x) throws IllegalAccessException {
    RoomTest room = new RoomTest();
    room.walk(x);
    return room.objects.size();
  }

  private void walk(Object object) throws IllegalAccessException {
    if (object == null || !objects.add(object)) {
      return;
    }
    Class<?> type = object.getClass();
    if (type.isArray()) {
      elements += Array.getLength(object);
      for (int i = 0; i < Array.getLength(object) && !type.getComponentType().isPrimitive(); i++) {
        walk(Array.get(object, i));
      }
      return;
    }
    for (Field field : type.getDeclaredFields()) {
      if (!Modifier.isStatic(field.getModifiers())) {
        elements++;
        field.setAccessible(true);
        if (!field.getType().isPrimitive()) {
          walk(field.get(object));
        }
      }
    }
  }

  /** The least of some rounds, for the machine itself makes objects in the first ones. */
  private static long leastBytesOfARound(NineKeys x) {
    com.sun.management.ThreadMXBean threads = (com.sun.management.ThreadMXBean) ManagementFactory.getThreadMXBean();
    long least = Long.MAX_VALUE;
    for (int n = 0; n < ROUNDS; n++) {
      long before = threads.getThreadAllocatedBytes(Thread.currentThread().getId());
      askAll(x);
      least = Math.min(least, threads.getThreadAllocatedBytes(Thread.currentThread().getId()) - before);
    }
    return least;
  }

  /** Every call of the face but add. */
  private static void askAll(NineKeys x) {
    x.deal(0, 2);
    x.letter(0, 1);
    x.beside(1, 2);
    x.count(79, 5);
    x.pair(79, 79, 5);
    x.pair(79, 79, 0);
    x.word(79, 4);
    x.paired(78, 79);
    x.find();
    x.many(6);
    x.share(40);
    x.price(1, 7);
    x.fewest();
    x.plan(59);
    x.taps();
    x.swap();
    x.best();
    x.clash();
    x.clashing(0);
    x.clashes();
    x.back();
    x.press(1);
    for (int kind = 0; kind < 4; kind++) {
      x.cost(79, kind);
      x.offers(kind, 100000);
      x.offer(kind, 100000, 0);
      x.priced(kind, 79);
      x.take(kind, 100000, 0);
    }
    x.wipe();
    x.text(0);
    x.newcomer();
    x.unspell();
    x.spell(25, 24, 23, 22, 21);
    x.third();
    for (int n = 0; n < 60; n++) {
      x.put(79 - n % 40);
    }
    x.drop(0);
  }
}
