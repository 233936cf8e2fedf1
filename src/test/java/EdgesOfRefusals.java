import java.lang.reflect.InvocationTargetException;
import java.lang.reflect.Method;
import java.lang.reflect.Modifier;
import java.util.ArrayList;
import java.util.List;
import java.util.function.Supplier;

/** What is refused changes nothing but status: each call of the face, by numbers near and beyond its bounds, in many states. */
final class EdgesOfRefusals {
  private static final int[] NUMBERS = {Integer.MIN_VALUE, -1, 0, 3, 6, 21, 61, 101, 1000, Integer.MAX_VALUE};
  private static final int[] FEWER = {-1, 0, 6, 101};

  private EdgesOfRefusals() {}

  static void run() {
    Edge.term(4, "What is refused answers as told and changes nothing but STATUS.");
    int found = 0;
    for (Method method : WinterTellers.class.getDeclaredMethods()) {
      if (Modifier.isPublic(method.getModifiers())) {
        for (Object[] args : arguments(method)) {
          for (Supplier<WinterTellers> state : states()) {
            found += tryOne(method, args, state);
          }
        }
      }
    }
    Check.due("refused calls: " + found, found > 2000, true);
    acts();
  }

  private static List<Supplier<WinterTellers>> states() {
    List<Supplier<WinterTellers>> states = new ArrayList<>();
    states.add(WinterTellers::new);
    states.add(Lively::make);
    states.add(() -> {
      WinterTellers x = Check.coast("sb0m1;h;hk1;tk9");
      x.image();
      return x;
    });
    states.add(() -> {
      WinterTellers x = Lively.with("");
      Check.law(x, "y:1");
      Check.law(x, "y:2");
      Check.feed(x, "y:3");
      for (int i = 0; i < 7; i++) {
        x.seen(0, i, true);
      }
      x.back();
      return x;
    });
    return states;
  }

  private static List<Object[]> arguments(Method method) {
    List<Object[]> all = new ArrayList<>();
    all.add(new Object[method.getParameterCount()]);
    for (int i = 0; i < method.getParameterCount(); i++) {
      List<Object[]> longer = new ArrayList<>();
      for (Object[] args : all) {
        for (Object value : values(method, i)) {
          Object[] more = args.clone();
          more[i] = value;
          longer.add(more);
        }
      }
      all = longer;
    }
    return all;
  }

  private static List<Object> values(Method method, int i) {
    List<Object> values = new ArrayList<>();
    Class<?> type = method.getParameterTypes()[i];
    if (type == boolean.class) {
      values.add(true);
      values.add(false);
    } else if (type == long.class) {
      values.add(77L);
    } else if (method.getName().equals("feed")) {
      values.add(i == 0 ? 0x20202020 : 0);
    } else {
      for (int number : method.getParameterCount() > 2 ? FEWER : NUMBERS) {
        values.add(number);
      }
    }
    return values;
  }

  private static boolean isRefused(Object answer) {
    return answer.equals(-1) || answer.equals(-2) || answer.equals(WinterTellers.HIDDEN) || answer.equals(false)
        || answer instanceof Throwable;
  }

  private static Object answer(Method method, WinterTellers x, Object[] args) {
    try {
      return method.invoke(x, args);
    } catch (InvocationTargetException e) {
      return e.getCause();
    } catch (IllegalAccessException e) {
      throw new IllegalStateException(e);
    }
  }

  private static int tryOne(Method method, Object[] args, Supplier<WinterTellers> state) {
    Object answer = answer(method, state.get(), args);
    if (!isRefused(answer)) {
      return 0;
    }
    String call = method.getName() + java.util.Arrays.toString(args);
    boolean throwing = answer instanceof Throwable;
    Check.due(call + " throws only where the document says so: " + answer, throwing, method.getName().equals("tale"));
    Twins.same(call, state, x -> answer(method, x, args));
    return 1;
  }

  /** Behind a row of refused acts the next one goes as if there had been none. */
  private static void acts() {
    WinterTellers x = Lively.make();
    WinterTellers y = Lively.make();
    for (int i = 0; i < 20; i++) {
      x.tells(6);
      x.goes(4);
      x.learns(0);
      x.ties(1);
      x.give(0);
      x.undo();
      x.give(1);
    }
    for (int i = 0; i < 20; i++) {
      y.undo();
      y.give(1);
    }
    List<Integer> got = new ArrayList<>();
    List<Integer> due = new ArrayList<>();
    Twins.present(x, got);
    Twins.present(y, due);
    Check.due("as if there had been none", got.equals(due), true);
    Check.due("no such one", x.status(0), y.status(0) + 40);
    Check.due("out of bounds", x.status(1), y.status(1) + 20);
    Check.due("has it, nine", x.status(2), y.status(2) + 40);
  }
}
