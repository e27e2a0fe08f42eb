import java.lang.reflect.InvocationTargetException;
import java.lang.reflect.Method;
import java.util.Arrays;
import java.util.Comparator;
import java.util.Random;

/**
 * Calls of every kind with arguments of every kind, by chance (always the same ones): none throws but
 * element(), and that as promised; and what is refused changes nothing that can be asked for.
 */
public final class WildTest {
  private static final int[] ODD = {-1, -2, 121, 192, 400, 401, 1000, 5005, Integer.MAX_VALUE,
      Integer.MIN_VALUE};

  private final Random chance;
  private final DotLines x = new DotLines();

  private WildTest(int seed) {
    chance = new Random(seed);
  }

  public static void main(String[] args) throws Exception {
    Method[] calls = Arrays.stream(DotLines.class.getDeclaredMethods())
        .filter(m -> java.lang.reflect.Modifier.isPublic(m.getModifiers()))
        .sorted(Comparator.comparing(Method::getName)).toArray(Method[]::new);
    Due.is("methods of the face", calls.length, 41);
    for (int seed = 0; seed < 150; seed++) {
      new WildTest(seed).run(calls);
    }
    Due.end();
  }

  private void run(Method[] calls) throws Exception {
    for (int n = 0; n < 512; n++) {
      if (n % 40 == 0) {
        show();
      }
      Method call = calls[chance.nextInt(calls.length)];
      Object[] with = new Object[call.getParameterCount()];
      for (int i = 0; i < with.length; i++) {
        with[i] = call.getParameterTypes()[i] == boolean.class ? (Object) chance.nextBoolean() : (Object) number();
      }
      String told = call.getName() + Arrays.toString(with);
      boolean looks = n % 16 == 0;
      long ahead = looks ? state() : 0;
      long answer;
      try {
        answer = ((Number) call.invoke(x, with)).longValue();
      } catch (InvocationTargetException e) {
        answer = -1;
        String name = e.getCause().getClass().getSimpleName();
        int d = (Integer) with[0];
        String due = d < 0 || d > 7 ? "IllegalArgumentException" : "IllegalStateException";
        Due.is(told + " throws " + e.getCause(), call.getName().equals("element") && name.equals(due) ? 1 : 0, 1);
      }
      if (looks && answer < 0) {
        Due.is(told + ", refused, changes nothing", state(), ahead);
      }
    }
  }

  private void show() {
    int wide = 1 + chance.nextInt(16);
    int high = 1 + chance.nextInt(Math.min(12, 120 / (wide + 1)));
    StringBuilder text = new StringBuilder();
    for (int y = 0; y < high; y++) {
      text.append(y == 0 ? "" : "/");
      for (int u = 0; u < wide; u++) {
        text.append(chance.nextInt(3));
      }
    }
    Due.show(x, text.toString());
    Due.text(x, 1, "A:s>" + chance.nextInt(9) + "&k=1");
  }

  private int number() {
    int how = chance.nextInt(12);
    if (how == 0) {
      return ODD[chance.nextInt(ODD.length)];
    }
    return how == 1 ? chance.nextInt() : how < 5 ? chance.nextInt(200) : chance.nextInt(8);
  }

  /** All that can be asked for without changing anything. */
  private long state() {
    long sum = 7;
    for (int what = 0; what < 9; what++) {
      sum = 31 * sum + x.count(what);
    }
    for (int at = 0; at < 192; at++) {
      sum = 31 * sum + x.dot(at);
    }
    for (int d = 0; d < 8; d++) {
      sum = 31 * sum + x.reach(d);
      sum = 31 * sum + x.toss(d);
      for (int i = 0; i < 120 && Due.thrown(x, d, i) == 0; i++) {
        sum = 31 * sum + x.element(d, i);
      }
    }
    for (int c = 0; c < 16; c++) {
      int was = x.tone(c, 0);
      x.tone(c, was);
      sum = 31 * sum + was;
    }
    int touch = x.touch(0);
    x.touch(touch);
    sum = 31 * sum + touch;
    for (int f = 0; f < x.count(2) && f < 5; f++) {
      sum = 31 * sum + x.sign(f);
    }
    int redone = 0;
    while (redone < 20 && x.redo() >= 0) {
      redone++;
    }
    sum = 31 * sum + redone;
    for (int n = 0; n < redone; n++) {
      x.undo();
    }
    return sum;
  }
}
