import java.util.function.ToIntFunction;

/** The terms' first part, up to laws: a coast as a text, its bounds, where it is at fault. */
final class EdgesOfCoasts {
  private static final int NONE = WinterTellers.NONE;
  private static final String HOUSES = ";h;h;h;h;h;h";
  private static final String TALES = ";tl9k9;t;t;t;t;t";

  private EdgesOfCoasts() {}

  static void run() {
    clauses();
    howManyClauses();
    items();
    bounds();
    blanks();
    endsTooEarly();
    atWhichByte();
    longTexts();
  }

  private static void fault(String text, int due) {
    Check.due("fault of coast '" + text + "'", Check.fault(0, text), due);
  }

  /** A text that is right is taken, one at fault is not. */
  private static void right(String text, int houses) {
    WinterTellers x = new WinterTellers();
    Check.feed(x, text);
    Check.due("fault of coast '" + text + "'", x.fault(0), NONE);
    Check.due("houses of coast '" + text + "'", x.text(0), houses);
  }

  private static void clauses() {
    Edge.term(1, "A COAST is a TEXT: CLAUSES with ; between");
    right("h;h;t", 2);
    fault(";h;h;t", 0);
    fault("h;;h;t", 2);
    fault("h;h;t;", 6);
    fault("h;h;t;;", 6);
    fault("hh;t", 1);
    fault("h,h;t", 1);
    fault("h:h;t", 1);
    fault("y:1", 0);
    fault("k1", 0);
    fault("0", 0);
    Edge.term(1, "in any order, then ITEMS, none or more");
    String[] orders = {"s;h;h;t", "s;t;h;h", "h;s;h;t", "h;h;s;t", "h;h;t;s", "t;s;h;h", "t;h;s;h", "t;h;h;s", "h;t;h;s"};
    for (String order : orders) {
      right(order, 2);
    }
    right("sb1;hk1;h;tl1", 2);
    right("so9a1m63b99;hw9c9k63;hk0;tr1k9l9", 2);
    right("sb99m63a1o9;hk63c9w9;hc0;tl9k9r1", 2);
    fault("bs1", 0);
    fault("h;h;tl1;b1", 8);
  }

  private static void howManyClauses() {
    Edge.term(1, "s (its RULES; one at most)");
    right("h;h;t", 2);
    right("s;h;h;t", 2);
    right("h;h;t;s", 2);
    fault("s;s;h;h;t", 2);
    fault("s;h;h;t;s", 8);
    fault("sb1;h;h;t;sm1", 10);
    Edge.term(1, "h (a HOUSE; 2 .. 6, along the coast by numbers)");
    fault("t", 1);
    fault("h;t", 3);
    right("h;h;t", 2);
    right("h;h;h;h;h;t", 5);
    right("h;h;h;h;h;h;t", 6);
    fault("h;h;h;h;h;h;h;t", 12);
    fault("t;h;h;h;h;h;h;s;h", 16);
    WinterTellers x = Check.coast("hc1;t;hc2;s;hc4;hc5;t;hc6;hc7");
    int[] curious = {1, 2, 4, 5, 6, 7};
    for (int i = 0; i < 6; i++) {
      Check.due("house " + i, x.house(i, 1), curious[i]);
    }
    Check.due("how many houses", x.count(0), 6);
    Edge.term(1, "t (a TALE; 1 .. 6)");
    fault("h;h", 3);
    fault("h;h;s", 5);
    right("h;h;t", 2);
    right("h;h;t;t;t;t;t;t", 2);
    fault("h;h;t;t;t;t;t;t;t", 16);
    fault("t;t;t;t;t;t;h;h;t", 16);
    WinterTellers y = Check.coast("tl1;h;tl2;h;s;tl3;tl5;tl6;tl7");
    int[] lengths = {1, 2, 3, 5, 6, 7};
    for (int i = 0; i < 6; i++) {
      Check.due("tale " + i, y.tale(i, 0), lengths[i]);
    }
    Check.due("how many tales", y.count(1), 6);
  }

  private static void items() {
    Edge.term(1, "a letter, each once at most in a CLAUSE");
    String[] clauses = {"sbmao", "hkcw", "tlkr"};
    for (String clause : clauses) {
      for (int i = 1; i < clause.length(); i++) {
        String item = clause.charAt(i) + "1";
        fault(clause.charAt(0) + item + item, 3);
        fault(clause.charAt(0) + item + " " + item, 4);
        for (int j = 1; j < clause.length(); j++) {
          if (j != i) {
            fault(clause.charAt(0) + item + clause.charAt(j) + "1" + item, 5);
          }
        }
      }
    }
    right("hk1c1w1;hk1c1w1;tl1k1r1;tl1k1r1;sb1m1a1o1", 2);
    Edge.term(1, "of s:", "of h:", "of t:");
    for (char letter = 1; letter < 256; letter++) {
      for (String clause : clauses) {
        boolean goesOn = letter == ' ' || letter == ';' || clause.indexOf(letter, 1) > 0;
        fault(clause.charAt(0) + "" + letter, goesOn ? 2 : 1);
      }
    }
    Edge.term(1, "and a number (one or two digits)");
    for (String clause : clauses) {
      for (int i = 1; i < clause.length(); i++) {
        String item = clause.substring(0, 1) + clause.charAt(i);
        fault(item, 2);
        fault(item + ";", 2);
        fault(item + "-1", 2);
        fault(item + "+1", 2);
        fault(item + "x", 2);
        fault(item + "1", 3);
        fault(item + "01", 4);
        fault(item + "1x", 3);
        fault(item + "01x", 4);
        fault(item + "001", 4);
        fault(item + "1/", 3);
        fault(item + "1:", 3);
        fault(item + "/", 2);
        fault(item + ":", 2);
      }
    }
  }

  private static void bounds() {
    Edge.term(1, "b BREAD (0 .. 99; 20 without)");
    item("sb", 0, 99, 20, x -> x.count(8));
    Edge.term(1, "m which TALES he HAS (bits, 0 .. 63; 63)");
    item("sm", 0, 63, 63, x -> x.count(7));
    Edge.term(1, "a at which HOUSE he is (0 .. 5; 0)");
    item("sa", 0, 5, 0, x -> x.count(6));
    Edge.term(1, "o how OFTEN a TALE heard again still counts (0 .. 9; 1)");
    item("so", 0, 9, 1, EdgesOfCoasts::oftenCounts);
    Edge.term(1, "k which TALES it KNOWS (bits, 0 .. 63; 0)");
    item("hk", 0, 63, 0, x -> x.house(0, 0));
    Edge.term(1, "c how CURIOUS (0 .. 9; 3)");
    item("hc", 0, 9, 3, x -> x.house(0, 1));
    Edge.term(1, "w how WARM (0 .. 9; 2)");
    item("hw", 0, 9, 2, x -> x.house(0, 2));
    Edge.term(1, "l how LONG (1 .. 9; 4)");
    item("tl", 1, 9, 4, x -> x.tale(0, 0));
    Edge.term(1, "k KNOTS (0 .. 9; 2)");
    item("tk", 0, 9, 2, x -> x.tale(0, 1));
    Edge.term(1, "r whether it is TRUE (0, 1; 0)");
    item("tr", 0, 1, 0, x -> x.tale(0, 2));
  }

  /** By tale 0 (9 long, 9 knots) where c is 3: it has ten nights less what was heard, and nine while they count. */
  private static int oftenCounts(WinterTellers x) {
    for (int heard = 0; heard < 10; heard++) {
      if (x.nights(0, 0) == 10 - heard) {
        return heard;
      }
      Check.due("nights while its length counts", x.nights(0, 0), 19 - heard);
      x.tells(0);
    }
    return 10;
  }

  /** Each number of one or two digits: taken with its value, or wrong at its last digit; a third digit at it. */
  private static void item(String item, int low, int high, int without, ToIntFunction<WinterTellers> shown) {
    String kind = item.substring(0, 1);
    String others = kind.equals("s") ? HOUSES + TALES
        : kind.equals("h") ? HOUSES.substring(2) + TALES : HOUSES + ";t;t;t;t;t";
    Check.due("without " + item, shown.applyAsInt(Check.coast(kind + others)), without);
    for (int value = 0; value < 100; value++) {
      String[] ways = value < 10 ? new String[] {"" + value, "0" + value} : new String[] {"" + value};
      for (String digits : ways) {
        String text = item + digits + others;
        if (value < low || value > high) {
          fault(text, 1 + digits.length());
          fault(item + digits, 1 + digits.length());
          fault(item + digits + "x", 1 + digits.length());
        } else {
          Check.due(text, shown.applyAsInt(Check.coast(text)), value);
        }
        if (digits.length() == 2) {
          fault(item + digits + "0" + others, 4);
          fault(item + digits + "9", 4);
          fault(item + digits + "12", 4);
        }
      }
    }
  }

  private static void blanks() {
    Edge.term(1, "Blanks (32) may stand between all signs of both, not within numbers.");
    right(" s b 7 m 63 a 1 o 9 ; h k 3 c 9 w 0 ; h ; t l 1 k 2 r 1 ; t ", 2);
    right("   s   b   0   ;   h   ;   h   ;   t   ", 2);
    String plain = "sb7m3a1o9;hk3c9w1;h;tl9k2r1";
    for (int i = 0; i <= plain.length(); i++) {
      right(plain.substring(0, i) + " " + plain.substring(i), 2);
      right(plain.substring(0, i) + "  " + plain.substring(i), 2);
    }
    fault("sb1 2;h;h;t", 4);
    fault("sm6 3;h;h;t", 4);
    fault("tl0 5;h;h", 2);
    fault("sb  1  2;h;h;t", 7);
    int[] noBlanks = {9, 10, 11, 12, 13, 31, 33, 160, 255};
    for (int sign : noBlanks) {
      fault((char) sign + "h;h;t", 0);
      fault("h;h;t" + (char) sign, 5);
      fault("h;h;" + (char) sign + "t", 4);
      fault("sb" + (char) sign + "1;h;h;t", 2);
    }
  }

  private static void endsTooEarly() {
    Edge.term(1, "FAULT: the first byte at which no such TEXT can go on (the length, if it ends too early");
    fault("", 0);
    fault(" ", 1);
    fault("    ", 4);
    fault("s", 1);
    fault("sb", 2);
    fault("sb ", 3);
    fault("sb1", 3);
    fault("sb1;", 4);
    fault("sb1; ", 5);
    fault("h;h;", 4);
    Edge.term(1, "with fewer than two HOUSES");
    fault("t;s", 3);
    fault("t;s;h", 5);
    fault("t;s;h   ", 8);
    right("t;s;h;h", 2);
    Edge.term(1, "without a TALE");
    fault("h;h;s", 5);
    fault("h;h;h;h;h;h ", 12);
    right("h;h;h;h;h;h;t", 6);
    Edge.term(1, "with a HOUSE he is at that is not told");
    for (int at = 0; at < 6; at++) {
      for (int houses = 2; houses <= 6; houses++) {
        String ahead = "sa" + at + HOUSES.substring(0, 2 * houses) + ";t";
        String behind = "t" + HOUSES.substring(0, 2 * houses) + ";sa" + at;
        if (at < houses) {
          right(ahead, houses);
          right(behind, houses);
        } else {
          fault(ahead, ahead.length());
          fault(behind, behind.length());
          fault(behind + "  ", behind.length() + 2);
        }
      }
    }
    fault("sa2;h;h;t;x", 10);
    Edge.term(1, "bits of TALES that are not told do nothing");
    for (int tales = 1; tales <= 6; tales++) {
      WinterTellers x = Check.coast("sm63;hk63;hk62" + ";t".repeat(tales));
      int all = (1 << tales) - 1;
      Check.due("tales", x.count(1), tales);
      Check.due("he has", x.count(7), all);
      Check.due("it knows", x.house(0, 0), all);
      Check.due("it knows all but the first", x.house(1, 0), all - 1);
      Check.due("common", x.most(6), all - 1);
      Check.due("new", x.fresh(1, 0), 1);
      Check.due("old", x.fresh(1, 1), 0);
      for (int tale = tales; tale < 6; tale++) {
        Check.due("not heard as there is none", x.heard(0, tale), NONE);
      }
    }
    WinterTellers x = Check.coast("sm62;hk62;h;t");
    Check.due("he has none", x.count(7), 0);
    Check.due("best of none", x.best(0, 0), NONE);
    Check.due("it knows none", x.house(0, 0), 0);
    Check.due("learns none", x.learns(1), NONE);
    Check.due("no such one", x.status(0), 1);
  }

  private static void atWhichByte() {
    Edge.term(1, "a number out of bounds is wrong at its last digit");
    fault("h;h;t;sm64", 9);
    fault("h;h;t;sm 64 ", 10);
    fault("h;h;t;sa6", 8);
    fault("h;h;t;sa06", 9);
    fault("h;h;t;sa66", 9);
    fault("h;h;tl0", 6);
    fault("h;h;tl00", 7);
    fault("h;h;tr2k1", 6);
    Edge.term(1, "a third digit (a fifth one in a LAW) itself, whatever stands ahead of it");
    fault("h;h;t;sm640", 10);
    fault("h;h;t;sb990", 10);
    fault("h;h;t;sb000", 10);
    fault("h;h;t;sa666666", 10);
    fault("h;h;tl000", 8);
    fault("h;h;tr1111", 8);
    Edge.term(1, "a letter that was there, a second s, a seventh h, a seventh t");
    fault("h;h;t;sb1m1 b1", 12);
    fault("h;h;tl1k1l", 9);
    fault("h;hk0c0w0w0", 9);
    fault("s;h;h;t;  s", 10);
    fault("h;h;h;h;h;h;  h", 14);
    fault("t;t;t;t;t;t;  t", 14);
    String all = "s;h;h;h;h;h;h;t;t;t;t;t;t";
    right(all, 6);
    fault(all + ";s", 26);
    fault(all + ";h", 26);
    fault(all + ";t", 26);
  }

  /** The tape's last bytes are read, too. */
  private static void longTexts() {
    Edge.term(1, "A COAST is a TEXT");
    String blanks = " ".repeat(235);
    right("h;h;t" + blanks, 2);
    right(blanks + "h;h;t", 2);
    fault(" ".repeat(240), 240);
    fault(blanks + "h;h;x", 239);
    fault(blanks + "h;h;h", 240);
    fault(" ".repeat(236) + "h;h;", 240);
  }
}
