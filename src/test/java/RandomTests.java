import java.lang.reflect.InvocationTargetException;
import java.lang.reflect.Method;
import java.lang.reflect.Modifier;
import java.util.ArrayList;
import java.util.Comparator;
import java.util.List;
import java.util.Random;

/** All promises at once: runs of calls by chance, each answer held against the model's. */
public final class RandomTests {
  private static final int RUNS = 2500;
  private static final int CALLS = 512;
  private final Random random;
  private final StringBuilder trace = new StringBuilder();

  private RandomTests(long seed) {
    random = new Random(seed);
  }

  public static void main(String[] args) throws Exception {
    List<Method> face = new ArrayList<>();
    List<Method> model = new ArrayList<>();
    for (Method m : WinterTellers.class.getDeclaredMethods()) {
      if (Modifier.isPublic(m.getModifiers())) {
        face.add(m);
      }
    }
    face.sort(Comparator.comparing(Method::getName));
    for (Method m : face) {
      model.add(Model.class.getDeclaredMethod(m.getName(), m.getParameterTypes()));
    }
    for (int run = 0; run < RUNS; run++) {
      if (!new RandomTests(run * 7919L + 1).agrees(run, face, model)) {
        System.exit(1);
      }
    }
    Check.due("methods", face.size(), 39);
    Check.end("RandomTests");
  }

  private boolean agrees(int run, List<Method> face, List<Method> model) throws Exception {
    WinterTellers x = new WinterTellers();
    Model y = new Model();
    int calls = 0;
    boolean mostlyActs = run % 3 == 0;
    if (run % 5 == 0) {
      calls = goLate(x, y, face, model);
      if (calls < 0) {
        return false;
      }
    }
    while (calls < CALLS) {
      int kind = random.nextInt(mostlyActs ? 200 : 40);
      if (calls == 0 && random.nextInt(8) != 0) {
        kind = 0;
      }
      if (kind < 2) {
        String text = kind == 0 ? Texts.coast(random) : Texts.law(random);
        if (random.nextInt(5) != 0 && !call(x, y, face, model, "end", 0)) {
          return false;
        }
        for (int i = 0; i < text.length(); i += 20) {
          if (!call(x, y, face, model, "feed", Check.word(text, i), Check.word(text, i + 4), Check.word(text, i + 8),
              Check.word(text, i + 12), Check.word(text, i + 16))) {
            return false;
          }
          calls++;
        }
        if (!call(x, y, face, model, "fault", kind) || !call(x, y, face, model, "text", kind)) {
          return false;
        }
        calls += 3;
        if (kind == 1 && random.nextInt(3) != 0) {
          if (!call(x, y, face, model, "law", random.nextInt(4))) {
            return false;
          }
          calls++;
        }
        continue;
      }
      int i;
      if (mostlyActs && random.nextInt(3) != 0) {
        String[] acts = {"tells", "tells", "tells", "goes", "goes", "learns", "ties", "rest", "give", "years", "undo", "image", "back"};
        i = index(face, acts[random.nextInt(random.nextInt(8) == 0 ? 13 : 10)]);
      } else {
        i = random.nextInt(face.size());
      }
      if (face.get(i).getName().equals("text") && random.nextInt(10) != 0) {
        continue;
      }
      if (!call(x, y, face.get(i), model.get(i), arguments(face.get(i)))) {
        return false;
      }
      calls++;
    }
    return true;
  }

  /** Up to the last days, which no short run comes to by chance; how many calls that took, or -1. */
  private int goLate(WinterTellers x, Model y, List<Method> face, List<Method> model) throws Exception {
    String[] texts = {"sb99m31;hk9w9;hc9;hk63;h;t;t;t;tk9;t;t", "y:20"};
    int calls = 0;
    for (int sort = 0; sort < 2; sort++) {
      for (int i = 0; i < texts[sort].length(); i += 20) {
        if (!call(x, y, face, model, "feed", Check.word(texts[sort], i), Check.word(texts[sort], i + 4),
            Check.word(texts[sort], i + 8), Check.word(texts[sort], i + 12), Check.word(texts[sort], i + 16))) {
          return -1;
        }
        calls++;
      }
      if (!call(x, y, face, model, "text", sort)) {
        return -1;
      }
      calls++;
    }
    if (!call(x, y, face, model, "law", 0)) {
      return -1;
    }
    int last = 9900 + random.nextInt(99);
    for (int i = 0; i < 100 && y.count(5) < last; i++) {
      boolean ok = y.count(5) < 8500
          ? call(x, y, face, model, "years", 60, random.nextLong())
          : call(x, y, face, model, "years", 1, random.nextLong());
      if (!ok) {
        return -1;
      }
      calls++;
    }
    return calls + 1;
  }

  private static int index(List<Method> face, String name) {
    for (int i = 0; i < face.size(); i++) {
      if (face.get(i).getName().equals(name)) {
        return i;
      }
    }
    throw new IllegalStateException(name);
  }

  private boolean call(WinterTellers x, Model y, List<Method> face, List<Method> model, String name, Object... args)
      throws Exception {
    int i = index(face, name);
    return call(x, y, face.get(i), model.get(i), args);
  }

  private boolean call(WinterTellers x, Model y, Method face, Method model, Object... args) throws Exception {
    Object got = answer(face, x, args);
    Object due = answer(model, y, args);
    String call = face.getName() + java.util.Arrays.toString(args);
    trace.append(call).append(" = ").append(due).append('\n');
    if (!got.equals(due)) {
      System.out.println(trace + "answered " + got);
      Check.due(call, 0, 1);
      return false;
    }
    return true;
  }

  private static Object answer(Method m, Object o, Object[] args) throws Exception {
    try {
      return m.invoke(o, args);
    } catch (InvocationTargetException e) {
      return e.getCause().getClass().getName();
    }
  }

  private Object[] arguments(Method m) {
    Class<?>[] types = m.getParameterTypes();
    Object[] args = new Object[types.length];
    for (int i = 0; i < types.length; i++) {
      if (types[i] == boolean.class) {
        args[i] = random.nextBoolean();
      } else if (types[i] == long.class) {
        args[i] = random.nextInt(4) == 0 ? (long) random.nextInt(5) - 2 : random.nextLong();
      } else {
        args[i] = number(m.getName(), i);
      }
    }
    return args;
  }

  private int number(String name, int i) {
    int kind = random.nextInt(60);
    if (kind == 0) {
      return random.nextInt();
    }
    if (kind == 1) {
      return random.nextBoolean() ? Integer.MAX_VALUE : Integer.MIN_VALUE;
    }
    if (kind < 4) {
      return random.nextInt(120) - 10;
    }
    switch (name) {
      case "give":
        return random.nextInt(54) - 1;
      case "years":
        return random.nextInt(random.nextBoolean() ? 64 : 6) - 1;
      case "end":
        return random.nextInt(242);
      case "fewest":
      case "ask":
        return random.nextInt(23) - 1;
      case "where":
        return random.nextInt(i == 0 ? 6 : 23) - (i == 0 ? 0 : 1);
      case "seen":
        return i == 0 ? random.nextInt(6) : random.nextInt(23) - 1;
      case "odds":
        return i < 2 ? random.nextInt(6) : i == 2 ? random.nextInt(103) - 1 : random.nextInt(23) - 1;
      case "shares":
        return i == 0 ? random.nextInt(6) : random.nextInt(1003) - 1;
      case "log":
        return i == 0 ? random.nextInt(random.nextBoolean() ? 63 : 4) - 1 : random.nextInt(4);
      case "count":
        return random.nextInt(17) - 1;
      case "most":
        return random.nextInt(11) - 1;
      case "rests":
        return i == 0 ? random.nextInt(6) : random.nextInt(20) - 2;
      case "whys":
        return random.nextInt(12) - 1;
      case "goes":
      case "tells":
      case "ties":
      case "learns":
        return random.nextInt(6);
      default:
        return random.nextInt(7) - 1;
    }
  }
}
