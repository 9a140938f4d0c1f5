import java.lang.reflect.InvocationTargetException;
import java.lang.reflect.Method;
import java.lang.reflect.Modifier;
import java.util.ArrayList;
import java.util.Arrays;
import java.util.Comparator;
import java.util.List;
import java.util.Random;

/**
 * Calls of the whole face with numbers of all sorts, most of them out of range: a call throws nothing
 * but what the document lists for it (by the very class, so nothing that the machine throws), and
 * comes to an end. The same calls each time.
 */
public final class WildCalls extends Sentences {
  private static final int[] NUMBERS = {
    LEAST, LEAST + 1, -1441, -121, -32, -31, -6, -5, -2, -1, 0, 1, 2, 3, 4, 5, 6, 7, 8, 9, 10, 11, 12, 13, 14, 20, 30, 31, 32, 39, 40, 99, 100, 120, 121, 127, 128, 255, 256, 500, 501,
    600, 601, 999, 1000, 1439, 1440, 1441, 4095, 4096, 10080, 14399, 14400, 14401, 15000, 20000, 24480, 34560, 146000, 146001, 146096, 146097, 540000,
    209714400, 210229920, 210239999, 210240000, 210240001, MOST - 1, MOST
  };
  private static final Random RANDOM = new Random(20001);

  public static void main(String[] args) throws Exception {
    List<Method> face = new ArrayList<>();
    for (Method m : Calendarhall.class.getDeclaredMethods()) if (Modifier.isPublic(m.getModifiers())) face.add(m);
    face.sort(Comparator.comparing(Method::getName));
    int calls = 0, thrown = 0;
    for (int hall = 0; hall < 1500; hall++) {
      Calendarhall x = hall % 3 == 0 ? fresh() : full();
      StringBuilder log = new StringBuilder();
      for (int k = 0; k < 450; k++, calls++) {
        Method m = face.get(RANDOM.nextInt(face.size()));
        if (!isSound(x, m, log)) thrown++;
      }
    }
    System.out.println("WildCalls: " + calls + " calls, " + thrown + " of them thrown, as listed");
  }

  private static int number() {
    return RANDOM.nextInt(3) == 0 ? NUMBERS[RANDOM.nextInt(NUMBERS.length)] : RANDOM.nextInt(3) > 0 ? RANDOM.nextInt(13) : 14400 + RANDOM.nextInt(20000);
  }

  private static Object argument(Class<?> type) {
    if (type == boolean.class) return RANDOM.nextBoolean();
    if (type == long.class) return RANDOM.nextInt(4) == 0 ? RANDOM.nextLong() : (long) "once evry 3days for5".charAt(RANDOM.nextInt(20));
    return number();
  }

  /** Whether the call answers; if it throws something that is not listed, the test is over. */
  private static boolean isSound(Calendarhall x, Method m, StringBuilder log) throws Exception {
    Class<?>[] types = m.getParameterTypes();
    Object[] values = new Object[types.length];
    for (int k = 0; k < types.length; k++) values[k] = argument(types[k]);
    log.append(m.getName()).append(Arrays.toString(values)).append('\n');
    try {
      m.invoke(x, values);
      return true;
    } catch (InvocationTargetException e) {
      if (Arrays.asList(m.getExceptionTypes()).contains(e.getCause().getClass())) return false;
      System.out.println(log + "throws " + e.getCause());
      System.exit(1);
      return false;
    }
  }
}
