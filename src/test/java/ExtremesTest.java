import java.lang.reflect.InvocationTargetException;
import java.lang.reflect.Method;
import java.util.Arrays;

/**
 * Each call with every choice of arguments out of a few that lie at or far beyond edges, on an object that is new, one that
 * is rich and one that is full: nothing may be thrown but what the document names, and Model must answer the same.
 */
public final class ExtremesTest {
  private static final int LOW = Integer.MIN_VALUE;
  private static final int HIGH = Integer.MAX_VALUE;
  private static final int[] MANY = {LOW, LOW + 1, -1000, -1, 0, 1, 2, 6, 7, 8, 9, 20, 21, 99, 100, 600, 1200, 1201, HIGH - 1, HIGH};
  private static final int[] SOME = {LOW, -1, 0, 1, 3, 7, 8, 99, 100, 1200, HIGH};
  private static final int[] FEW = {LOW, -1, 0, 1, 2, 7, 8, HIGH};
  private static final int CALLS = 300;

  private static long calls;
  private static int wrong;

  private FiddleBuzz real;
  private Model model;
  private int left;

  private void fill(int d, int sort, int... values) {
    real.row(d, sort, values.length);
    model.row(d, sort, values.length);
    for (int i = 0; i < values.length; i++) {
      real.put(d, i, values[i]);
      model.put(d, i, values[i]);
    }
  }

  private void read(String text) {
    int[] values = new int[text.length()];
    for (int i = 0; i < values.length; i++) values[i] = text.charAt(i);
    fill(0, 0, values);
    if (real.instrument(0) <= 0 | model.instrument(0) <= 0) throw new IllegalStateException("a text of this test has a FAULT: " + text);
  }

  /** 0 new, 1 rich, 2 full. */
  private void start(int state) {
    real = new FiddleBuzz();
    model = new Model();
    left = CALLS;
    if (state == 0) return;
    read("p100 1 1;p102 5 5j0 99;p600 99 99j1 50;t00 99 0 1;t11 9 9 99;t20 1 1 2;t42 3 9 3;");
    fill(0, 0, 100, 99, 1);
    fill(1, 1, 100, 600, 1, 1200);
    fill(2, 2, LOW, 7, HIGH);
    real.keep(7, 1, 3);
    model.keep(7, 1, 3);
    if (state == 1) return;
    read("p10 1 1;p10 1 1;p10 1 1;p10 1 1;p10 1 1;p10 1 1;p10 1 1j8 5;t55 1 0 1;t69 999 9 9;t79 5 5 5;");
    for (int i = 0; i < 24; i++) {
      real.ask(100, 1 + i, true);
      model.ask(100, 1 + i, true);
    }
    real.image();
    model.image();
  }

  private static String outcome(Object on, Method m, Object[] args) {
    try {
      return String.valueOf(m.invoke(on, args));
    } catch (InvocationTargetException e) {
      return e.getCause().getClass().getSimpleName();
    } catch (IllegalAccessException e) {
      return "no access";
    }
  }

  private void call(Method m, Method same, Object[] args, int state) {
    if (left-- <= 0) start(state);
    String got = outcome(real, m, args);
    String want = outcome(model, same, args);
    calls++;
    boolean asTold = m.getName().equals("element") || !got.endsWith("Exception") && !got.endsWith("Error");
    if (got.equals(want) && asTold) return;
    if (wrong++ < 20) System.out.println(m.getName() + Arrays.toString(args) + ", state " + state + ": answered " + got + ", due is " + want);
  }

  private static Object argument(Class<?> type, int choice, int[] of) {
    return type == boolean.class ? (Object) (choice == 1) : (Object) of[choice];
  }

  private void all(Method m, int state) throws Exception {
    Class<?>[] types = m.getParameterTypes();
    int[] of = types.length <= 2 ? MANY : types.length == 3 ? SOME : FEW;
    Method same = Model.class.getDeclaredMethod(m.getName(), types);
    int choices = 1;
    for (Class<?> type : types) choices *= type == boolean.class ? 2 : of.length;
    start(state);
    for (int c = 0; c < choices; c++) {
      Object[] args = new Object[types.length];
      int rest = c;
      for (int i = 0; i < types.length; i++) {
        int size = types[i] == boolean.class ? 2 : of.length;
        args[i] = argument(types[i], rest % size, of);
        rest /= size;
      }
      call(m, same, args, state);
    }
  }

  public static void main(String[] args) throws Exception {
    for (Method m : FiddleBuzz.class.getDeclaredMethods()) {
      if (!java.lang.reflect.Modifier.isPublic(m.getModifiers())) continue;
      for (int state = 0; state < 3; state++) new ExtremesTest().all(m, state);
    }
    System.out.println(calls + " calls at and beyond edges, " + wrong + " not as due");
    if (wrong != 0) System.exit(1);
  }
}
