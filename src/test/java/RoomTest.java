import java.lang.reflect.Array;
import java.lang.reflect.Field;
import java.lang.reflect.Modifier;
import java.util.ArrayDeque;
import java.util.Collections;
import java.util.IdentityHashMap;
import java.util.Set;

/**
 * What a hall takes of the room in which all calls of one run live (some 600,000 objects and arrays,
 * 7.3 million fields and elements): its objects and their fields are counted, when it is new and when it
 * has been used. That calls make nothing but exceptions is looked up by LibraryTest.
 */
public final class RoomTest extends Sentences {
  private static final int MOST_OBJECTS = 1500, MOST_ELEMENTS = 40000;

  private static int objects;
  private static int elements;

  public static void main(String[] args) throws Exception {
    count(new Calendarhall());
    int objectsOfNew = objects, elementsOfNew = elements;
    Calendarhall used = full();
    for (int k = 0; k < 400; k++) used.write(k % 3);
    count(used);
    System.out.println("RoomTest: a hall has " + objectsOfNew + " objects and " + elementsOfNew + " fields and elements, a used one " + objects + " and " + elements);
    if (objects > MOST_OBJECTS || elements > MOST_ELEMENTS) fail("more than " + MOST_OBJECTS + " and " + MOST_ELEMENTS);
    if (objects != objectsOfNew || elements != elementsOfNew) fail("calls have taken more");
  }

  private static void fail(String what) {
    System.out.println("RoomTest: " + what);
    System.exit(1);
  }

  private static void count(Object first) throws Exception {
    Set<Object> seen = Collections.newSetFromMap(new IdentityHashMap<>());
    ArrayDeque<Object> open = new ArrayDeque<>();
    open.add(first);
    seen.add(first);
    objects = 0;
    elements = 0;
    while (!open.isEmpty()) {
      Object one = open.remove();
      objects++;
      if (one.getClass().isArray()) countArray(one, seen, open);
      else if (one instanceof StringBuilder) elements += 200;
      else countFields(one, seen, open);
    }
  }

  private static void countArray(Object one, Set<Object> seen, ArrayDeque<Object> open) {
    elements += Array.getLength(one);
    if (one.getClass().getComponentType().isPrimitive()) return;
    for (int k = 0; k < Array.getLength(one); k++) see(Array.get(one, k), seen, open);
  }

  private static void countFields(Object one, Set<Object> seen, ArrayDeque<Object> open) throws Exception {
    for (Field f : one.getClass().getDeclaredFields()) {
      if (Modifier.isStatic(f.getModifiers())) continue;
      elements++;
      f.setAccessible(true);
      if (!f.getType().isPrimitive()) see(f.get(one), seen, open);
    }
  }

  private static void see(Object one, Set<Object> seen, ArrayDeque<Object> open) {
    if (one != null && seen.add(one)) open.add(one);
  }
}
