import java.util.ArrayList;
import java.util.Collections;
import java.util.List;
import java.util.Random;

/** Texts by chance: most are right, some are spoilt at one place. */
final class Texts {
  private Texts() {}

  static String coast(Random random) {
    List<String> clauses = new ArrayList<>();
    int houses = 2 + random.nextInt(5);
    int tales = 1 + random.nextInt(6);
    if (random.nextInt(4) != 0) {
      clauses.add("s" + items(random, "b99 m63 a" + (houses - 1) + " o" + (random.nextBoolean() ? 9 : 2)));
    }
    for (int i = 0; i < houses; i++) {
      clauses.add("h" + items(random, "k63 c9 w9"));
    }
    for (int i = 0; i < tales; i++) {
      clauses.add("t" + items(random, "l9 k9 r1").replaceAll("l( *)0(?!\\d)", "l$11"));
    }
    if (random.nextBoolean()) {
      Collections.shuffle(clauses, random);
    }
    return spoilt(random, String.join(blanks(random) + ";" + blanks(random), clauses), "shtbmaokcwlr;0123456789 x");
  }

  private static String items(Random random, String of) {
    List<String> items = new ArrayList<>();
    for (String item : of.split(" ")) {
      if (random.nextInt(3) != 0) {
        int high = Integer.parseInt(item.substring(1));
        int value = random.nextInt(high + 1);
        String digits = random.nextInt(12) == 0 && value < 10 && item.charAt(0) != 'l' ? "0" + value : "" + value;
        items.add(blanks(random) + item.charAt(0) + blanks(random) + digits);
      }
    }
    Collections.shuffle(items, random);
    return String.join("", items);
  }

  private static String blanks(Random random) {
    return random.nextInt(25) == 0 ? "  ".substring(random.nextInt(2)) : "";
  }

  static String law(Random random) {
    StringBuilder text = new StringBuilder();
    int clauses = 1 + random.nextInt(4);
    for (int i = 0; i < clauses; i++) {
      text.append(i == 0 ? "" : ";").append(blanks(random)).append('y').append(blanks(random)).append(':');
      if (i < clauses - 1 ? random.nextInt(6) != 0 : random.nextBoolean()) {
        text.append(condition(random, random.nextInt(4), 0)).append('?');
      }
      text.append(sum(random, random.nextInt(4), 0));
    }
    String whole = text.length() > 236 ? "y:" + sum(random, 2, 0) : text.toString();
    return spoilt(random, whole.length() > 236 ? "y:9-n" : whole, "y:?|&!()=<>+-*/lkcnwr[]0123456789; x");
  }

  private static String condition(Random random, int size, int depth) {
    int kind = random.nextInt(size + 2);
    if (size <= 0 || kind < 2) {
      return sum(random, size - 1, depth) + "=<>".charAt(random.nextInt(3)) + sum(random, size - 1, depth) + blanks(random);
    }
    if (kind == 2) {
      return condition(random, size - 1, depth) + (random.nextBoolean() ? "|" : "&") + condition(random, size - 1, depth);
    }
    return (random.nextBoolean() ? "!" : "") + "(" + condition(random, size - 1, depth + 2) + ")";
  }

  private static String sum(Random random, int size, int depth) {
    int kind = random.nextInt(size < 0 ? 1 : size + 2);
    if (kind < 2) {
      if (random.nextInt(3) == 0) {
        return blanks(random) + random.nextInt(random.nextInt(6) == 0 ? 10000 : 20) + blanks(random);
      }
      return blanks(random) + "lkcnwr".charAt(random.nextInt(6)) + blanks(random);
    }
    if (kind == 2) {
      return sum(random, size - 1, depth) + "+-*/".charAt(random.nextInt(4)) + sum(random, size - 1, depth);
    }
    return "[" + sum(random, size - 1, depth + 1) + "]";
  }

  private static String spoilt(Random random, String text, String signs) {
    if (random.nextInt(4) != 0) {
      return text;
    }
    StringBuilder spoilt = new StringBuilder(text);
    int changes = 1 + random.nextInt(2);
    for (int i = 0; i < changes && spoilt.length() > 0; i++) {
      int at = random.nextInt(spoilt.length());
      char sign = random.nextInt(20) == 0 ? (char) (1 + random.nextInt(255)) : signs.charAt(random.nextInt(signs.length()));
      switch (random.nextInt(4)) {
        case 0:
          spoilt.deleteCharAt(at);
          break;
        case 1:
          spoilt.setCharAt(at, sign);
          break;
        case 2:
          spoilt.insert(at, sign);
          break;
        default:
          spoilt.setLength(at);
          break;
      }
    }
    return spoilt.toString();
  }
}
