import java.lang.reflect.Method;
import java.lang.reflect.Modifier;
import java.util.ArrayList;
import java.util.Comparator;
import java.util.List;
import java.util.Random;

/** No call throws, for any arguments in any state, and the same calls always give the same answers. */
public final class WildTest {
  private static final int RUNS = 600;
  private static final int CALLS = 700;
  private static final long[] FAR = {
    Integer.MIN_VALUE, Integer.MAX_VALUE, Integer.MIN_VALUE + 1L, Integer.MAX_VALUE - 1L, -1, -2, -12, -13,
    1L << 32, -1L << 32, Long.MIN_VALUE, Long.MAX_VALUE, 31, 32, 60, 61, 99, 100, 199, 200, 255, 256, 4095, 10000, 10001
  };

  private static List<Method> face() {
    List<Method> all = new ArrayList<>();
    for (Method m : PewRank.class.getDeclaredMethods()) if (Modifier.isPublic(m.getModifiers())) all.add(m);
    all.sort(Comparator.comparing(Method::getName));
    return all;
  }

  private static Object argument(Class<?> type, Random dice, boolean isTame) {
    long v = !isTame && dice.nextInt(4) == 0 ? FAR[dice.nextInt(FAR.length)] : dice.nextInt(dice.nextInt(13) + 1);
    if (type == boolean.class) return dice.nextBoolean();
    if (type == long.class) return v;
    return (int) v;
  }

  private static Object[] arguments(Method m, Random dice) {
    // most calls have to be taken, or else the object stays empty
    boolean isTame = dice.nextInt(3) > 0;
    Object[] all = new Object[m.getParameterCount()];
    for (int i = 0; i < all.length; i++) all[i] = argument(m.getParameterTypes()[i], dice, isTame);
    return all;
  }

  private static List<Object> play(int seed, List<Method> face) throws ReflectiveOperationException {
    Random dice = new Random(seed);
    PewRank x = new PewRank();
    List<Object> answers = new ArrayList<>();
    for (int b = 0; b < seed % 9; b++) answers.add(x.bench(b, 7 * b, 4 + b * 4, b % 2 == 0));
    for (int h = 0; h < seed % 13; h++) answers.add(x.household(h, 1 + h, h % 10));
    for (int i = 0; i < CALLS; i++) {
      Method m = face.get(dice.nextInt(face.size()));
      answers.add(m.invoke(x, arguments(m, dice)));
    }
    return answers;
  }

  public static void main(String[] args) throws Exception {
    List<Method> face = face();
    for (int seed = 0; seed < RUNS; seed++) {
      if (!play(seed, face).equals(play(seed, face))) {
        System.out.println("run " + seed + " answers otherwise when it is played again");
        System.exit(1);
      }
    }
    System.out.println("no call throws in " + RUNS + " wild runs");
  }
}
