import java.lang.management.ManagementFactory;
import java.lang.reflect.InvocationTargetException;
import java.lang.reflect.Method;
import java.lang.reflect.Modifier;
import java.nio.ByteBuffer;
import java.nio.charset.StandardCharsets;
import java.util.ArrayList;
import java.util.Arrays;
import java.util.Comparator;
import java.util.List;

/** No call throws, whatever its arguments and the state; and calls make next to nothing anew. */
public final class RobustTest {
  private static final int[] NUMBERS = {Integer.MIN_VALUE, Integer.MIN_VALUE + 1, -1000, -2, -1, 0, 1, 2, 3,
      4, 5, 6, 7, 8, 11, 12, 13, 63, 64, 255, 256, 399, 400, 779, 800, 1000, 10394, 10395, 1 << 30,
      Integer.MAX_VALUE - 1, Integer.MAX_VALUE};

  private static final String[] THEORIES = {
      "",
      "field p real;",
      "field p real;outer p;vertex p p p p;outer p;",
      "field e pair odd;field p real;outer e;vertex e' e p;vertex e' e p;outer e';",
      "field a real;field b real;mix b a;outer a;vertex a b;outer b;",
      "field p real;outer p p p;",
      "field a real odd;field b real odd;mix a b;vertex a b;vertex a b;vertex a b;vertex a b;vertex a b;outer a b;",
      "field p real;vertex p p p p p p;vertex p p p p p p;",
      "field p real;outer p;outer p;outer p;vertex p;vertex p;vertex p;vertex p;vertex p;",
  };

  private static final String[] TEXTS = {
      "0-1;2-3;4-5;", "0-1p;0-1p;", "0>1e;", "field", "99-99;", "0-0;", "\u00ff\u0080\u0000", "a".repeat(400),
      "1".repeat(400), ";;;;", "''''", "mix a b", "normal vertex", "0-1;".repeat(100), "7-7ab;",
  };

  private static long state = 5;
  private static long asked = 0;
  private static int wrong = 0;

  public static void main(String[] args) throws Exception {
    for (String theory : THEORIES) {
      askAll(theory);
    }
    for (int run = 0; run < 60 && wrong == 0; run++) {
      askAny(THEORIES[run % THEORIES.length]);
    }
    countWhatIsMade();
    System.out.println(asked + " calls asked, " + wrong + " went wrong");
    if (wrong != 0) {
      System.exit(1);
    }
  }

  private static int random(int bound) {
    state = state * 6364136223846793005L + 1442695040888963407L;
    return (int) ((state >>> 33) % bound);
  }

  private static void tell(ContractionCounter x, String text) {
    byte[] bytes = Arrays.copyOf(text.getBytes(StandardCharsets.ISO_8859_1), (text.length() + 19) / 20 * 20);
    for (int at = 0; at < bytes.length; at += 20) {
      ByteBuffer four = ByteBuffer.wrap(bytes, at, 20);
      x.feed(four.getInt(), four.getInt(), four.getInt(), four.getInt(), four.getInt());
    }
  }

  private static ContractionCounter with(String theory) {
    ContractionCounter x = new ContractionCounter();
    tell(x, theory);
    if (x.load(theory.length()) < 0) {
      wrong++;
      System.out.println("does not load: " + theory);
    }
    return x;
  }

  private static void call(ContractionCounter x, Method method, Object[] args) throws Exception {
    asked++;
    try {
      method.invoke(x, args);
      int status = x.status();
      if (status < 0 || status > 9 || (status > 5 && status < 9)) {
        wrong++;
        System.out.println(method.getName() + Arrays.toString(args) + " left STATUS " + status);
      }
    } catch (InvocationTargetException thrown) {
      wrong++;
      System.out.println(method.getName() + Arrays.toString(args) + " threw " + thrown.getCause());
    }
  }

  private static Object argument(Class<?> type, int number) {
    return type == boolean.class ? (Object) (number % 2 != 0) : (Object) number;
  }

  private static boolean changes(Method method) {
    return "drop move swap normal copy load".contains(method.getName());
  }

  /** By name, for the machine tells them in no fixed order. */
  private static List<Method> face() {
    List<Method> open = new ArrayList<>();
    for (Method method : ContractionCounter.class.getDeclaredMethods()) {
      if (Modifier.isPublic(method.getModifiers())) {
        open.add(method);
      }
    }
    open.sort(Comparator.comparing(Method::getName));
    return open;
  }

  /** Each number in each place, with each other. */
  private static void askAll(String theory) throws Exception {
    ContractionCounter x = with(theory);
    for (Method method : face()) {
      Class<?>[] types = method.getParameterTypes();
      int most = types.length > 3 ? 1 : (int) Math.pow(NUMBERS.length, types.length);
      for (int choice = 0; choice < most; choice++) {
        Object[] args = new Object[types.length];
        int rest = choice;
        for (int i = 0; i < args.length; i++) {
          args[i] = argument(types[i], NUMBERS[rest % NUMBERS.length]);
          rest /= NUMBERS.length;
        }
        boolean dear = most > 1000 && x.many(5) > 1000;
        if (!dear || choice % 37 == 0) {
          call(x, method, args);
        }
        if (changes(method) && x.status() == 0) {
          x = with(theory);
        }
      }
    }
  }

  private static void askAny(String theory) throws Exception {
    ContractionCounter x = with(theory);
    List<Method> methods = face();
    for (int k = 0; k < 400; k++) {
      Method method = methods.get(random(methods.size()));
      if (random(4) == 0) {
        String text = random(3) == 0 ? THEORIES[random(THEORIES.length)] : TEXTS[random(TEXTS.length)];
        tell(x, text);
        int n = random(3) == 0 ? random(text.length() + 1) : text.length();
        String name = new String[] {"load", "pairs", "lines"}[random(3)];
        call(x, ContractionCounter.class.getDeclaredMethod(name, int.class), new Object[] {n});
      }
      Class<?>[] types = method.getParameterTypes();
      Object[] args = new Object[types.length];
      for (int i = 0; i < args.length; i++) {
        args[i] = argument(types[i], random(3) == 0 ? NUMBERS[random(NUMBERS.length)] : random(8));
      }
      call(x, method, args);
    }
  }

  private static long allocated() {
    com.sun.management.ThreadMXBean bean =
        (com.sun.management.ThreadMXBean) ManagementFactory.getThreadMXBean();
    return bean.getCurrentThreadAllocatedBytes();
  }

  /** The dearest theories: rows grow to their full size once, and are used again then. */
  private static void countWhatIsMade() {
    String dearest = THEORIES[6];
    int length = dearest.length();
    allocated();
    long before = allocated();
    ContractionCounter x = new ContractionCounter();
    limit("a new object", allocated() - before, 64_000);
    tell(x, dearest);
    x.load(length);
    before = allocated();
    x.many(6);
    x.many(12);
    x.sub(63, 2);
    limit("the rows of 10395 pairings", allocated() - before, 1_500_000);
    before = allocated();
    for (int k = 0; k < 20; k++) {
      x.swap(0);
      x.many(6 + k % 7);
      x.by(k % 2, k);
      x.sub(k, 1 + k % 3);
      x.sumOf(k);
      x.diagram(k, k % 11);
      x.print(k);
      x.printPairs(k);
      x.partial(k);
      x.pairs(0);
      x.lines(0);
    }
    // Some hundred bytes are the machine's own, for measuring.
    limit("220 calls on rows that are there", allocated() - before, 30_000);
  }

  private static void limit(String what, long bytes, long most) {
    if (bytes > most) {
      wrong++;
      System.out.println(what + " made " + bytes + " bytes, at most " + most + " are due");
    }
  }
}
