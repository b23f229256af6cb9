import java.lang.reflect.InvocationTargetException;
import java.lang.reflect.Method;
import java.util.ArrayList;
import java.util.Arrays;
import java.util.Comparator;
import java.util.List;

/** Every call with numbers at and beyond every limit, on empty, small and full rocks: none may throw. */
public final class ExtremesTest {
  private static final int ROUNDS = 400;
  private static final int CALLS = 200;
  private static final int[] NUMBERS = {Integer.MIN_VALUE, Integer.MIN_VALUE + 1, -1000, -100, -99, -91, -90, -2, -1, 0, 1, 2, 3, 4, 5, 7,
      8, 9, 10, 11, 12, 15, 16, 19, 20, 21, 22, 23, 24, 31, 32, 33, 34, 40, 41, 42, 43, 63, 64, 99, 100, 101, 198, 199, 200, 255, 299, 300,
      380, 381, 399, 400, 401, 511, 0xffffff, 0x1000000, 0x1ffffff, 0x40000000, Integer.MAX_VALUE - 1, Integer.MAX_VALUE};
  private static final Check CHECK = new Check("ExtremesTest");
  private static final List<Method> CALLS_OF_THE_FACE = face();

  private ExtremesTest() {
  }

  public static void main(String[] args) throws IllegalAccessException {
    Dice dice = new Dice(5);
    for (int round = 0; round < ROUNDS; round++) {
      LawRock x = round % 4 == 0 ? new LawRock() : round % 4 == 1 ? Scene.court("marks harm;") : full(round % 4 == 3);
      for (int i = 0; i < CALLS; i++) {
        call(x, CALLS_OF_THE_FACE.get(dice.below(CALLS_OF_THE_FACE.size())), dice);
      }
    }
    CHECK.close();
  }

  private static List<Method> face() {
    List<Method> face = new ArrayList<>();
    for (Method method : LawRock.class.getDeclaredMethods()) {
      if (java.lang.reflect.Modifier.isPublic(method.getModifiers())) {
        face.add(method);
      }
    }
    // The order in which the machine tells them may be another on another machine.
    face.sort(Comparator.comparing(Method::getName));
    return face;
  }

  private static void call(LawRock x, Method method, Dice dice) throws IllegalAccessException {
    Object[] arguments = new Object[method.getParameterCount()];
    boolean small = dice.oneIn(2);
    for (int i = 0; i < arguments.length; i++) {
      boolean flag = method.getParameterTypes()[i] == boolean.class;
      arguments[i] = flag ? (Object) dice.oneIn(2) : (Object) (small && !dice.oneIn(4) ? dice.below(3) : NUMBERS[dice.below(NUMBERS.length)]);
    }
    String thrown = "nothing";
    try {
      method.invoke(x, arguments);
    } catch (InvocationTargetException e) {
      thrown = e.getCause().toString();
    }
    CHECK.due(method.getName() + Arrays.toString(arguments) + " threw " + thrown, thrown.equals("nothing"), true);
  }

  /** All that there can be; at the last summer or in the first. */
  private static LawRock full(boolean late) {
    LawRock x = new LawRock();
    for (int w = 0; w < 32; w++) {
      Check.wording(x, w % 2 == 0 ? "marks line " + w % 24 + "*2+1;" : "marks age/3;");
    }
    for (int i = 0; i < 24; i++) {
      x.person(i % 4, i % 3, -i);
      x.line(i % 3, i % 2 == 0);
      x.know(i, i, 31 - i, 9);
      x.book(i, i + 8);
    }
    Scene.pass(x, late ? 199 : 1);
    for (int i = 0; i < 100; i++) {
      x.suit(i % 24, (i + 1) % 24, i % 24, i, i % 10, late ? 100 : 0);
    }
    return x;
  }
}
