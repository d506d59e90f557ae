import java.lang.reflect.InvocationTargetException;
import java.lang.reflect.Method;
import java.lang.reflect.Modifier;
import java.util.ArrayList;
import java.util.Comparator;
import java.util.List;

/** Calls with all sorts of numbers, far out of bounds too, in all sorts of states: none may throw. */
public final class NeverThrowsTest {

  private static final int[] NUMBERS = {0, 1, 2, 3, 4, 5, 6, 7, 8, 9, 10, 11, 12, 20, 39, 40, 41, 60, 99, 100, 255, 256, 4095,
    4096, -1, -2, -3, Integer.MAX_VALUE, Integer.MAX_VALUE - 1, Integer.MIN_VALUE, Integer.MIN_VALUE + 1};
  private static final String[] TEXTS = {"part;", "part by 0;", "one 9;", "one 3 away 4;", "machine 5 need 0 and 1;", "gives 0 0",
    "part", "machine 99 need 2", "and", " 7 ", "$", ";"};

  /** An object is good for so many calls. */
  private static final int MOST_CALLS = 512;

  private static long state = 77;

  private static int below(int n) {
    state = state * 6364136223846793005L + 1442695040888963407L;
    return (int) ((state >>> 33) % n);
  }

  public static void main(String[] args) throws IllegalAccessException {
    List<Method> calls = new ArrayList<>();
    for (Method m : OnlyWhatFits.class.getDeclaredMethods()) {
      if (Modifier.isPublic(m.getModifiers())) {
        calls.add(m);
      }
    }
    calls.sort(Comparator.comparing(Method::getName));
    for (int run = 0; run < 600; run++) {
      OnlyWhatFits x = new OnlyWhatFits();
      int made = 0;
      while (made < MOST_CALLS) {
        String text = below(6) == 0 ? TEXTS[below(TEXTS.length)] : "";
        for (int i = 0; i < text.length() && made < MOST_CALLS; i++) {
          x.feed(text.charAt(i), 1);
          made++;
        }
        if (text.isEmpty()) {
          call(x, calls.get(below(calls.size())), run < 300 ? 12 : NUMBERS.length);
          made++;
        }
      }
    }
    System.out.println("no call throws");
  }

  private static void call(OnlyWhatFits x, Method m, int among) throws IllegalAccessException {
    Class<?>[] types = m.getParameterTypes();
    Object[] numbers = new Object[types.length];
    StringBuilder told = new StringBuilder(m.getName());
    for (int i = 0; i < types.length; i++) {
      int n = NUMBERS[below(among)];
      if (types[i] == boolean.class) {
        numbers[i] = n % 2 == 0;
      } else if (types[i] == long.class) {
        numbers[i] = (long) n << below(33);
      } else {
        numbers[i] = n;
      }
      told.append(' ').append(numbers[i]);
    }
    try {
      m.invoke(x, numbers);
    } catch (InvocationTargetException thrown) {
      System.out.println(told + " threw " + thrown.getCause());
      System.exit(1);
    }
  }
}
