import java.util.ArrayList;
import java.util.List;
import java.util.function.Supplier;

/** Promises 1 to 10: a new object, the tape, faults, texts, what there is, nights, the law that holds. */
final class EdgesOfReads {
  private static final int NONE = WinterTellers.NONE;
  private static final int[] FAR = {Integer.MIN_VALUE, -1000000, -2, -1, 6, 7, 64, 1000000, Integer.MAX_VALUE};

  private EdgesOfReads() {}

  static void run() {
    newObject();
    feeding();
    fullTape();
    ends();
    faults();
    coasts();
    refusedTexts();
    houses();
    tales();
    heardAndNights();
    laws();
  }

  private static void newObject() {
    Edge.promise(1, "No COAST.");
    WinterTellers x = new WinterTellers();
    Check.due("houses", x.count(0), 0);
    Check.due("tales", x.count(1), 0);
    Check.due("laws", x.count(2), 0);
    Check.due("an empty tape", x.count(3), 0);
    Check.due("no law holds", x.count(4), NONE);
    for (int what : new int[] {5, 6, 7, 8, 9, 10, 12, 13, 14}) {
      Check.due("count " + what, x.count(what), 0);
    }
    Check.due("whys", x.count(11), 2);
    for (int i = 0; i < 5; i++) {
      Check.due("status " + i, x.status(i), 0);
    }
    Check.due("the empty tape is no coast", x.text(0), NONE);
    Check.due("the empty tape is no law", x.text(1), NONE);
    WinterTellers other = Check.coast("h;h;t");
    other.tells(0);
    Check.due("another object's coast is not its own", x.count(0), 0);
    Check.due("nor is its day", x.count(5), 0);
  }

  private static void feeding() {
    Edge.promise(2, "Twenty bytes more come to the TAPE (of each number the highest first");
    WinterTellers x = new WinterTellers();
    Check.due("twenty", x.feed(0x68202020, 0x3B202020, 0x68202020, 0x3B202020, 0x74202020), 20);
    Check.due("in their order", x.fault(0), NONE);
    // Each byte in its turn is the one at fault: its place is told.
    for (int place = 0; place < 20; place++) {
      WinterTellers y = new WinterTellers();
      int[] words = {0x20202020, 0x20202020, 0x20202020, 0x20202020, 0x20202020};
      words[place / 4] ^= (0x20 ^ 0x78) << (24 - place % 4 * 8);
      y.feed(words[0], words[1], words[2], words[3], words[4]);
      Check.due("a strange byte", y.fault(0), place);
      y.end(0);
      words[place / 4] |= 0xFF << (24 - place % 4 * 8);
      y.feed(words[0], words[1], words[2], words[3], words[4]);
      Check.due("255 is a byte as others", y.fault(0), place);
      Check.due("twenty", y.count(3), 20);
    }
    Edge.promise(2, "bytes of 0 are left out): how many it has.");
    Check.due("nothing", new WinterTellers().feed(0, 0, 0, 0, 0), 0);
    for (int place = 0; place < 20; place++) {
      int[] words = new int[5];
      words[place / 4] = 0x68 << (24 - place % 4 * 8);
      WinterTellers y = new WinterTellers();
      Check.due("one byte alone", y.feed(words[0], words[1], words[2], words[3], words[4]), 1);
      Check.due("it is h", y.fault(0), 1);
      Check.due("one more", y.feed(0, 0, 0x3B, 0, 0), 2);
      Check.due("h;", y.fault(0), 2);
      Check.due("nothing more", y.feed(0, 0, 0, 0, 0), 2);
    }
    WinterTellers z = new WinterTellers();
    Check.due("zeros within", z.feed(0x68003B00, 0x00680000, 0x0000003B, 0x00740000, 0), 5);
    Check.due("they are a coast", z.text(0), 2);
  }

  private static WinterTellers fed(int bytes) {
    WinterTellers x = new WinterTellers();
    for (int i = 0; i < bytes / 20; i++) {
      x.feed(-1, -1, -1, -1, -1);
    }
    for (int i = 0; i < bytes % 20; i++) {
      x.feed(0, 1, 0, 0, 0);
    }
    Check.due("fed", x.count(3), bytes);
    return x;
  }

  /** So many bytes, from the last number on. */
  private static int feedSome(WinterTellers x, int bytes) {
    int[] words = new int[5];
    for (int i = 0; i < bytes; i++) {
      words[4 - i / 4] |= 0x41 << i % 4 * 8;
    }
    return x.feed(words[0], words[1], words[2], words[3], words[4]);
  }

  private static void fullTape() {
    Edge.promise(2, "NONE: more than 240.");
    for (int there = 219; there <= 240; there++) {
      for (int more = 0; more <= 20; more++) {
        int due = there + more > 240 ? NONE : there + more;
        WinterTellers x = fed(there);
        Check.due(more + " bytes to " + there, feedSome(x, more), due);
        Check.due("the tape then", x.count(3), due == NONE ? there : due);
      }
    }
    Supplier<WinterTellers> making = () -> {
      WinterTellers x = Lively.make();
      x.end(0);
      Check.feed(x, "sb5;h;h;hk3;tl1" + " ".repeat(220));
      return x;
    };
    Check.due("235 bytes", making.get().count(3), 235);
    Twins.refused("feed of six", making, x -> feedSome(x, 6), NONE, -1);
    Twins.refused("feed of twenty", making, x -> x.feed(-1, -1, -1, -1, -1), NONE, -1);
    Twins.refused("feed of none", making, x -> x.feed(0, 0, 0, 0, 0), 235, -1);
    WinterTellers x = making.get();
    Check.due("five still come", feedSome(x, 5), 240);
    Check.due("behind the others", x.fault(0), 235);
    Check.due("one is too many", x.feed(1, 0, 0, 0, 0), NONE);
    Check.due("none is not", x.feed(0, 0, 0, 0, 0), 240);
    x.end(235);
    Check.due("as it was ahead of them", x.text(0), 3);
    Check.due("empty again", x.feed(-1, -1, -1, -1, -1), 20);
  }

  private static void ends() {
    Edge.promise(3, "The TAPE has its first n bytes alone.");
    WinterTellers x = new WinterTellers();
    Check.due("none of none", x.end(0), true);
    Check.feed(x, "h;h;t;s");
    Check.due("all", x.end(7), true);
    Check.due("as it was", x.fault(0), NONE);
    Check.due("one less", x.end(6), true);
    Check.due("six", x.count(3), 6);
    Check.due("h;h;t;", x.fault(0), 6);
    Check.due("five", x.end(5), true);
    Check.due("h;h;t", x.fault(0), NONE);
    Check.due("what was cut off is gone", x.end(6), false);
    Check.due("goes on behind", x.feed(0x3B680000, 0, 0, 0, 0), 7);
    Check.due("three houses", x.text(0), 3);
    Check.due("none of none", x.end(0), true);
    WinterTellers full = fed(240);
    Check.due("all of a full one", full.end(240), true);
    Check.due("full", full.count(3), 240);
    Check.due("none of it", full.end(0), true);
    Check.due("empty", full.count(3), 0);
    Edge.promise(3, "False: n.");
    for (int n : new int[] {Integer.MIN_VALUE, -241, -1, 6, 240, 241, Integer.MAX_VALUE}) {
      Twins.refused("end " + n, () -> {
        WinterTellers y = Lively.make();
        y.end(0);
        Check.feed(y, "h;h;t");
        return y;
      }, y -> y.end(n) ? 1 : 0, 0, -1);
    }
    Check.due("one of none", new WinterTellers().end(1), false);
    Check.due("beyond a full one", fed(240).end(241), false);
  }

  private static void faults() {
    Edge.promise(4, "The FAULT of the TAPE as a COAST (0), a LAW (1). NONE: none.");
    WinterTellers x = new WinterTellers();
    Check.due("of nothing", x.fault(0), 0);
    Check.due("of nothing", x.fault(1), 0);
    Check.feed(x, "h;h;t");
    Check.due("a coast", x.fault(0), NONE);
    Check.due("no law", x.fault(1), 0);
    x.end(0);
    Check.feed(x, "y:1");
    Check.due("no coast", x.fault(0), 0);
    Check.due("a law", x.fault(1), NONE);
    for (int sort = 0; sort < 2; sort++) {
      int of = sort;
      Twins.same("fault " + sort, Lively::make, y -> y.fault(of));
      Twins.same("fault " + sort + " of a coast", () -> Lively.with("sb1m1a1;hk1;hk1;hk1;tl1;tl1"), y -> y.fault(of));
      Twins.same("fault " + sort + " of a law", () -> Lively.with("y:l=1?20;y:3"), y -> y.fault(of));
      Twins.same("fault " + sort + " of a spoilt coast", () -> Lively.with("sa5b1m1;hk1;hk1;tl1;tl0"), y -> y.fault(of));
    }
    Edge.promise(4, "-2: no such sort.");
    for (int sort : new int[] {Integer.MIN_VALUE, -2, -1, 2, 3, Integer.MAX_VALUE}) {
      Twins.refused("fault " + sort, Lively::make, y -> y.fault(sort), -2, -1);
      Twins.refused("fault " + sort, WinterTellers::new, y -> y.fault(sort), -2, -1);
    }
  }

  private static void coasts() {
    Edge.promise(5, "The TAPE (empty then) is the COAST (DAY 0; all that was of another one, SEEN, too, is gone but LAWS, "
        + "which holds, WHYS, STATUS): how many HOUSES");
    for (int houses = 2; houses <= 6; houses++) {
      WinterTellers x = Lively.with("sb7m6a1" + ";hc2w8k3".repeat(houses) + ";tl2;tl3k7r1");
      int[] status = new int[5];
      for (int i = 0; i < 5; i++) {
        status[i] = x.status(i);
        Check.due("something was refused " + i, status[i] > 0, i < 4);
      }
      int[] there = {4, 6, 2, x.count(3), 0, x.count(5), 2, 63, x.count(8), x.count(9), x.count(10), 6, 3, x.count(13), 14};
      for (int i = 0; i < 15; i++) {
        Check.due("ahead of it: count " + i, x.count(i), there[i]);
      }
      Check.due("days, nights, out, a log",
          x.count(5) > 0 && x.count(9) > 0 && x.count(10) > 0 && x.count(13) > 0, true);
      Check.due("how many houses", x.text(0), houses);
      int[] due = {houses, 2, 2, 0, 0, 0, 1, 2, 7, 0, 0, 6, 0, 0, 0};
      for (int i = 0; i < 15; i++) {
        Check.due("count " + i, x.count(i), due[i]);
      }
      for (int i = 0; i < 5; i++) {
        Check.due("status " + i, x.status(i), status[i]);
      }
      for (int house = 0; house < 6; house++) {
        for (int tale = 0; tale < 6; tale++) {
          Check.due("heard", x.heard(house, tale), house < houses && tale < 2 ? 1 : NONE);
        }
        Check.due("curious", x.house(house, 1), house < houses ? 2 : NONE);
        Check.due("all that is heard", x.house(house, 0), house < houses ? 3 : NONE);
        Check.due("new", x.fresh(house, 0), house < houses ? 0 : NONE);
        Check.due("old", x.fresh(house, 1), house < houses ? 1 : NONE);
      }
      Check.due("knots", x.tale(0, 1), 2);
      Check.due("knots", x.tale(1, 1), 7);
      Check.due("the law holds still", x.nights(0, 1), 3 + 7 - 1);
      Check.due("no log", x.log(0, 0), NONE);
      Check.due("no act", x.undo(), NONE);
      Check.due("no image", x.back(), NONE);
      Check.due("nothing seen", x.told(NONE), 2);
      Check.due("the tape is empty", x.text(0), NONE);
    }
    WinterTellers same = Lively.with("h;h;t");
    same.text(0);
    same.goes(1);
    Check.feed(same, "h;h;t");
    Check.due("the same text once more", same.text(0), 2);
    Check.due("he begins anew", same.count(6), 0);
    Check.due("on day 0", same.count(5), 0);
    Edge.promise(5, "a LAW: its number.");
    WinterTellers x = Lively.make();
    for (int law = 2; law < 4; law++) {
      x.end(0);
      Check.feed(x, "y:" + law + "+n*0");
      Check.due("law", x.text(1), law);
      Check.due("the tape is empty", x.count(3), 0);
      Check.due("laws", x.count(2), law + 1);
      Check.due("it does not hold yet", x.count(4), 0);
      x.law(law);
      Check.due("now it does", x.nights(0, 0), law);
      x.law(0);
    }
    WinterTellers one = Lively.with("y:20");
    List<Integer> before = new ArrayList<>();
    List<Integer> after = new ArrayList<>();
    Twins.present(one, before);
    one.text(1);
    Twins.present(one, after);
    before.set(2, 3);
    before.set(3, 0);
    Check.due("nothing else changes by a law that is told", after.equals(before), true);
  }

  private static void refusedTexts() {
    Edge.promise(5, "NONE: a FAULT");
    String[] spoilt = {"", "h", "h;h", "h;t", "h;h;t;", "sa2;h;h;t", "sb100;h;h;t", "y:1;", "y:(1)", "y:1=1", "x"};
    for (String text : spoilt) {
      for (int sort = 0; sort < 2; sort++) {
        int of = sort;
        Twins.refused("text " + sort + " of '" + text + "'", () -> Lively.with(text), x -> x.text(of), NONE, -1);
      }
    }
    Twins.refused("a law as a coast", () -> Lively.with("y:1"), x -> x.text(0), NONE, -1);
    Twins.refused("a coast as a law", () -> Lively.with("h;h;t"), x -> x.text(1), NONE, -1);
    Twins.refused("a fault, no coast", WinterTellers::new, x -> x.text(0), NONE, -1);
    Edge.promise(5, "no such sort");
    for (int sort : new int[] {Integer.MIN_VALUE, -1, 2, 3, Integer.MAX_VALUE}) {
      Twins.refused("text " + sort, () -> Lively.with("h;h;t"), x -> x.text(sort), NONE, -1);
      Twins.refused("text " + sort, () -> Lively.with("y:1"), x -> x.text(sort), NONE, -1);
    }
    Edge.promise(5, "there are four LAWS.");
    Supplier<WinterTellers> four = () -> {
      WinterTellers x = Lively.make();
      for (int i = 0; i < 2; i++) {
        x.end(0);
        Check.feed(x, "y:" + i);
        x.text(1);
      }
      Check.feed(x, "y:20");
      return x;
    };
    Check.due("four", four.get().count(2), 4);
    Check.due("no fault", four.get().fault(1), NONE);
    Twins.refused("a fifth law", four, x -> x.text(1), NONE, -1);
  }

  private static void houses() {
    Edge.promise(6, "Of a HOUSE: 0 TALES HEARD there now (bits), 1 how CURIOUS, 2 how WARM.");
    WinterTellers x = Check.coast("hk63c0w9;hc9w0;h;h;h;hk33c1w2;t;t;t;t;t;t");
    int[][] due = {{63, 0, 9}, {0, 9, 0}, {0, 3, 2}, {0, 3, 2}, {0, 3, 2}, {33, 1, 2}};
    for (int house = 0; house < 6; house++) {
      for (int what = 0; what < 3; what++) {
        Check.due("house " + house + " " + what, x.house(house, what), due[house][what]);
      }
    }
    x.goes(5);
    for (int tale = 1, bits = 33; tale < 5; tale++) {
      x.tells(tale);
      bits |= 1 << tale;
      Check.due("heard there now", x.house(5, 0), bits);
    }
    Check.due("not elsewhere", x.house(4, 0), 0);
    x.undo();
    Check.due("not heard there any more", x.house(5, 0), 47);
    Edge.promise(6, "NONE: no such ones.");
    for (int i : FAR) {
      Twins.refused("house " + i, Lively::make, y -> y.house(i, 0), NONE, -1);
      Twins.refused("house 0 " + i, Lively::make, y -> y.house(0, i), NONE, -1);
    }
    Twins.refused("house 4 of four", Lively::make, y -> y.house(4, 0), NONE, -1);
    Twins.refused("house 0, what 3", Lively::make, y -> y.house(0, 3), NONE, -1);
    Twins.refused("no coast", WinterTellers::new, y -> y.house(0, 0), NONE, -1);
  }

  private static void tales() {
    Edge.promise(7, "Of a TALE: 0 how LONG, 1 KNOTS now, 2 whether TRUE (1, 0), 3 whether he HAS it now (1, 0).");
    WinterTellers x = Check.coast("sm33;hk2;h;tl1k0r1;tl9k9r0;t;t;t;tl2k8r1");
    int[][] due = {{1, 0, 1, 1}, {9, 9, 0, 0}, {4, 2, 0, 0}, {4, 2, 0, 0}, {4, 2, 0, 0}, {2, 8, 1, 1}};
    for (int tale = 0; tale < 6; tale++) {
      for (int what = 0; what < 4; what++) {
        Check.due("tale " + tale + " " + what, x.tale(tale, what), due[tale][what]);
      }
    }
    x.ties(5);
    Check.due("knots now", x.tale(5, 1), 9);
    x.learns(1);
    Check.due("has it now", x.tale(1, 3), 1);
    x.undo();
    x.undo();
    Check.due("knots again", x.tale(5, 1), 8);
    Check.due("has it no more", x.tale(1, 3), 0);
    Edge.promise(7, "NoSuchElementException: no such ones.");
    for (int i : FAR) {
      Twins.refused("tale " + i + " throws", Lively::make, y -> Check.throwsNoSuch(y, i, 0), 1, -1);
      Twins.refused("tale 0 " + i + " throws", Lively::make, y -> Check.throwsNoSuch(y, 0, i), 1, -1);
    }
    Twins.refused("tale 0 4 throws", Lively::make, y -> Check.throwsNoSuch(y, 0, 4), 1, -1);
    Check.due("tale 2 of two throws", Check.throwsNoSuch(Check.coast("h;h;t;t"), 2, 0), 1);
    Check.due("tale 1 of two does not", Check.throwsNoSuch(Check.coast("h;h;t;t"), 1, 0), 0);
    Twins.refused("no coast", WinterTellers::new, y -> Check.throwsNoSuch(y, 0, 0), 1, -1);
  }

  private static void heardAndNights() {
    Edge.promise(8, "HEARD. NONE: no such ones.");
    Edge.promise(9, "NIGHTS (he HAS it or not). NONE: no such ones.");
    WinterTellers x = Check.coast("sm0;hk32;h;h;h;h;hk1;t;t;t;t;t;t");
    Check.due("heard 0 5", x.heard(0, 5), 1);
    Check.due("heard 5 0", x.heard(5, 0), 1);
    Check.due("heard 5 5", x.heard(5, 5), 0);
    Check.due("nights though he has it not", x.nights(5, 5), 4 + 2 + 1);
    Check.due("nights though he has it not, heard", x.nights(5, 0), 2 + 1 - 1);
    for (int i : FAR) {
      Twins.refused("heard " + i + " 0", Lively::make, y -> y.heard(i, 0), NONE, -1);
      Twins.refused("heard 0 " + i, Lively::make, y -> y.heard(0, i), NONE, -1);
      Twins.refused("nights " + i + " 0", Lively::make, y -> y.nights(i, 0), NONE, -1);
      Twins.refused("nights 0 " + i, Lively::make, y -> y.nights(0, i), NONE, -1);
    }
    WinterTellers small = Check.coast("h;h;h;t;t");
    Check.due("heard in the last house", small.heard(2, 1), 0);
    Check.due("heard behind it", small.heard(3, 1), NONE);
    Check.due("heard of no tale", small.heard(2, 2), NONE);
    Check.due("nights in the last house", small.nights(2, 1), 7);
    Check.due("nights behind it", small.nights(3, 1), NONE);
    Check.due("nights of no tale", small.nights(2, 2), NONE);
    Twins.refused("heard without a coast", WinterTellers::new, y -> y.heard(0, 0), NONE, -1);
    Twins.refused("nights without a coast", WinterTellers::new, y -> y.nights(0, 0), NONE, -1);
  }

  private static void laws() {
    Edge.promise(10, "The LAW that holds (NONE: none).");
    WinterTellers x = Lively.make();
    Check.due("it holds already", x.law(0), true);
    Check.due("the last one", x.law(1), true);
    Check.due("holds", x.count(4), 1);
    Check.due("none", x.law(NONE), true);
    Check.due("none once more", x.law(NONE), true);
    Check.due("none holds", x.count(4), NONE);
    WinterTellers fresh = new WinterTellers();
    Check.due("none without any", fresh.law(NONE), true);
    Edge.promise(10, "False: no such one.");
    Check.due("no law 0", fresh.law(0), false);
    for (int law : new int[] {Integer.MIN_VALUE, -2, 2, 3, 4, Integer.MAX_VALUE}) {
      Twins.refused("law " + law, Lively::make, y -> y.law(law) ? 1 : 0, 0, -1);
    }
  }
}
