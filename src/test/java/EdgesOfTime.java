import java.math.BigInteger;
import java.util.ArrayList;
import java.util.List;
import java.util.function.Supplier;

/** What is kept of acts (undone, the log, status), years by draws, images, counts: promises 17 to 21 and 38 to 40. */
final class EdgesOfTime {
  private static final int NONE = WinterTellers.NONE;
  private static final int HIDDEN = WinterTellers.HIDDEN;
  private static final int[] NO_WHAT = {Integer.MIN_VALUE, -2, -1, 15, 16, 100, Integer.MAX_VALUE};

  private EdgesOfTime() {}

  static void run() {
    status();
    statusStays();
    undone();
    fortyActs();
    undoRefused();
    log();
    logOfSixty();
    logUndone();
    whys();
    rounds();
    draws();
    drawsGoingRound();
    yearsAndBread();
    yearsAndTheLastDay();
    yearsRefused();
    images();
    imagesAgain();
    backRefused();
    counts();
    constants();
  }

  private static void status() {
    Edge.term(2, "STATUS: how many ACTS were refused as there was no such one (0)", "out of bounds (1)",
        "he has it not (for LEARNS: he has it), it was not HEARD there, he is there, nine (2)",
        "too little BREAD (3), beyond the last DAY (4)");
    Edge.promise(19, "STATUS.");
    WinterTellers x = Check.coast("sb0m1;hk2;hk4;tk9;t;t");
    for (int i = 1; i <= 20; i++) {
      x.tells(3);
      EdgesOfActs.statuses("no such one", x, i, 0, 0, 0, 0);
    }
    for (int i = 1; i <= 20; i++) {
      x.give(0);
      EdgesOfActs.statuses("out of bounds", x, 20, i, 0, 0, 0);
    }
    x.tells(1);
    EdgesOfActs.statuses("he has it not", x, 20, 20, 1, 0, 0);
    x.learns(0);
    EdgesOfActs.statuses("he has it", x, 20, 20, 2, 0, 0);
    x.learns(2);
    EdgesOfActs.statuses("it was not heard there", x, 20, 20, 3, 0, 0);
    x.goes(0);
    EdgesOfActs.statuses("he is there", x, 20, 20, 4, 0, 0);
    x.ties(0);
    EdgesOfActs.statuses("nine", x, 20, 20, 5, 0, 0);
    x.goes(1);
    x.learns(1);
    x.rest();
    EdgesOfActs.statuses("too little bread", x, 20, 20, 5, 3, 0);
    WinterTellers y = EdgesOfActs.onDay(9999, "sb0;hw9;h;t");
    for (int i = 1; i <= 20; i++) {
      y.rest();
      EdgesOfActs.statuses("beyond the last day", y, 0, 0, 0, 0, i);
    }
    Edge.promise(19, "NONE: no such what.");
    for (int what : new int[] {Integer.MIN_VALUE, -1, 5, 6, Integer.MAX_VALUE}) {
      Twins.refused("status " + what, Lively::make, z -> z.status(what), NONE, -1);
      Twins.refused("status " + what, WinterTellers::new, z -> z.status(what), NONE, -1);
    }
  }

  private static void statusStays() {
    Edge.term(2, "not UNDONE.");
    WinterTellers x = Lively.make();
    int[] due = new int[5];
    for (int i = 0; i < 5; i++) {
      due[i] = x.status(i);
    }
    for (int i = 0; i < 14; i++) {
      x.undo();
    }
    EdgesOfActs.statuses("all undone", x, due);
    x.undo();
    EdgesOfActs.statuses("undo refused is none of them", x, due);
    x.back();
    EdgesOfActs.statuses("an image is none", x, due);
    x.years(0, 0);
    x.years(61, 0);
    x.law(9);
    x.whys(10);
    x.seen(9, 9, true);
    x.text(9);
    x.feed(-1, -1, -1, -1, -1);
    x.end(-1);
    x.log(-1, 0);
    x.two(5);
    EdgesOfActs.statuses("only acts by hand count", x, due);
    x.tells(0);
    x.goes(0);
    x.give(5);
    EdgesOfActs.statuses("what is not refused does not", x, due);
  }

  /** The i-th of a row of acts of each sort, none of which is refused. */
  private static void act(WinterTellers x, int i) {
    int answer = NONE;
    switch (i % 8) {
      case 0:
        answer = x.tells(i / 8 % 2);
        break;
      case 1:
        answer = x.goes((x.count(6) + 1) % 3);
        break;
      case 2:
        answer = x.give(3 + i % 4);
        break;
      case 3:
        answer = x.rest();
        break;
      case 4:
        answer = x.ties(i / 8 % 2);
        break;
      case 5:
        answer = x.years(1, 1000L * i);
        break;
      case 6:
        int tale = 2 + i / 8 % 4;
        answer = x.heard(x.count(6), tale) > 0 && x.tale(tale, 3) == 0 ? x.learns(tale) : x.tells(1);
        break;
      default:
        answer = x.tells(0);
        break;
    }
    Check.due("act " + i + " is not refused", answer != NONE, true);
  }

  private static WinterTellers acted(int acts) {
    WinterTellers x = Check.coast("sb99m3;hk60c9w9;hk20w1;hk40c5;tk0;tk0r1;tl9;t;t;t");
    for (int i = 0; i < acts; i++) {
      act(x, i);
    }
    Check.due("each can be undone", x.count(14), Math.min(acts, 40));
    return x;
  }

  private static void alike(String what, WinterTellers x, WinterTellers y, boolean sameUndos) {
    List<Integer> got = new ArrayList<>();
    List<Integer> due = new ArrayList<>();
    Twins.present(x, got);
    Twins.present(y, due);
    if (!sameUndos) {
      got.set(14, 0);
      due.set(14, 0);
    }
    Check.due(what + ": " + got + " for " + due, got.equals(due), true);
  }

  private static void alikeByLog(String what, WinterTellers x, WinterTellers y) {
    List<Integer> got = new ArrayList<>();
    List<Integer> due = new ArrayList<>();
    Twins.log(x, got);
    Twins.log(y, due);
    Check.due(what + ": " + got + " for " + due, got.equals(due), true);
  }

  private static void undone() {
    Edge.term(2, "Each is an ACT: the latest 40 can be UNDONE one by one.");
    Edge.promise(20, "The latest ACT is UNDONE: how many still can be.");
    for (int acts = 1; acts <= 24; acts++) {
      WinterTellers x = acted(acts);
      Check.due("how many still", x.undo(), acts - 1);
      alike("one undone of " + acts, x, acted(acts - 1), true);
      WinterTellers all = acted(acts);
      for (int i = acts - 1; i >= 0; i--) {
        Check.due("how many still", all.undo(), i);
      }
      Check.due("no more", all.undo(), NONE);
      alike("all undone", all, acted(0), true);
      alikeByLog("all undone", all, acted(0));
    }
    WinterTellers x = acted(9);
    x.undo();
    x.undo();
    act(x, 7);
    act(x, 8);
    alike("done once more", x, acted(9), true);
  }

  private static void fortyActs() {
    Edge.term(2, "the latest 40 can be UNDONE one by one.");
    for (int acts : new int[] {39, 40, 41, 60, 79, 80, 81, 95}) {
      int kept = Math.min(acts, 40);
      for (int back : new int[] {1, 2, kept - 1, kept}) {
        WinterTellers x = acted(acts);
        for (int i = 1; i <= back; i++) {
          Check.due("how many still of " + acts, x.undo(), kept - i);
        }
        alike(back + " undone of " + acts, x, acted(acts - back), false);
      }
      WinterTellers x = acted(acts);
      for (int i = 0; i < kept; i++) {
        x.undo();
      }
      Check.due("no more than forty", x.undo(), NONE);
      Check.due("none left", x.count(14), 0);
      WinterTellers again = acted(acts);
      for (int i = 0; i < 40 && i < acts; i++) {
        again.undo();
      }
      for (int i = acts - kept; i < acts; i++) {
        act(again, i);
      }
      alikeByLog("undone and done once more", again, acted(acts));
      Check.due("acts then", again.count(14), kept);
    }
  }

  private static void undoRefused() {
    Edge.promise(20, "NONE: none.");
    Twins.refused("undo without a coast", WinterTellers::new, WinterTellers::undo, NONE, -1);
    Twins.refused("undo without an act", () -> Check.coast("h;h;t"), WinterTellers::undo, NONE, -1);
    Twins.refused("undo of a refused one", () -> {
      WinterTellers x = Check.coast("h;h;t");
      x.tells(5);
      return x;
    }, WinterTellers::undo, NONE, -1);
    Twins.refused("undo behind back", () -> {
      WinterTellers x = Lively.make();
      x.back();
      return x;
    }, WinterTellers::undo, NONE, -1);
    Twins.refused("undo behind a new coast", () -> {
      WinterTellers x = Lively.with("h;h;t");
      x.text(0);
      return x;
    }, WinterTellers::undo, NONE, -1);
    WinterTellers x = Check.coast("h;h;t");
    x.image();
    x.seen(0, 0, true);
    x.whys(3);
    x.law(NONE);
    x.best(0, 0);
    Check.due("these are no acts", x.undo(), NONE);
  }

  private static void log() {
    Edge.promise(21, "LOG, the latest (i 0), the one ahead of it (1) ..: 0 HOUSE, 1 TALE, 2 NIGHTS.");
    WinterTellers x = Check.coast("sb99;h;h;h;h;h;h;tl1;tl2;tl3;tl4;tl5;tl6");
    Check.law(x, "y:n=0?l*4-4;y:21-l");
    int[][] told = {{0, 0, 0}, {0, 0, 20}, {5, 5, 20}, {5, 5, 15}, {3, 4, 16}, {0, 5, 20}, {5, 0, 0}};
    for (int i = 0; i < told.length; i++) {
      if (x.count(6) != told[i][0]) {
        x.goes(told[i][0]);
      }
      Check.due("nights", x.tells(told[i][1]), told[i][2]);
      Check.due("how long", x.count(13), i + 1);
      for (int j = 0; j <= i; j++) {
        for (int what = 0; what < 3; what++) {
          Check.due("log " + j + " " + what + " of " + (i + 1), x.log(j, what), told[i - j][what]);
        }
      }
      Check.due("none behind it", x.log(i + 1, 0), NONE);
    }
    WinterTellers first = Check.coast("sb99a1;h;hk2;t;t;t");
    Check.due("nights", first.tells(2), 7);
    for (int i = 0; i < 59; i++) {
      int[] due = {1, 2, 7};
      for (int what = 0; what < 3; what++) {
        Check.due("the very first, " + i + " behind it", first.log(i, what), due[what]);
      }
      first.tells(1);
    }
    Edge.promise(21, "NONE: no such ones.");
    Supplier<WinterTellers> making = () -> acted(70);
    int size = making.get().count(13);
    for (int i : new int[] {Integer.MIN_VALUE, -2, -1, size, size + 1, 60, 61, 100, Integer.MAX_VALUE}) {
      Twins.refused("log " + i, making, y -> y.log(i, 0), NONE, -1);
    }
    for (int what : new int[] {Integer.MIN_VALUE, -1, 3, 4, Integer.MAX_VALUE}) {
      Twins.refused("log 0 " + what, making, y -> y.log(0, what), NONE, -1);
    }
    Twins.refused("log of nothing", () -> Check.coast("h;h;t"), y -> y.log(0, 0), NONE, -1);
    Twins.refused("log without a coast", WinterTellers::new, y -> y.log(0, 0), NONE, -1);
  }

  /** Tellings of which each differs from the next: tale i % 6, with as many nights as it was heard, twenty at most. */
  private static WinterTellers toldSo(int tellings) {
    WinterTellers x = Check.coast("sb99;h;h;tl1;tl2;tl3;tl4;tl5;tl6");
    Check.law(x, "y:n");
    for (int i = 0; i < tellings; i++) {
      Check.due("told", x.tells(i % 6), Math.min(i / 6, 20));
    }
    return x;
  }

  private static void logOfSixty() {
    Edge.term(2, "The LOG: HOUSE, TALE, NIGHTS of each telling (the latest 60");
    for (int tellings : new int[] {1, 59, 60, 61, 99, 100, 101, 120, 121, 161}) {
      WinterTellers x = toldSo(tellings);
      int size = Math.min(tellings, 60);
      Check.due("how long", x.count(13), size);
      for (int i = 0; i < size; i++) {
        Check.due("tale of " + i, x.log(i, 1), (tellings - 1 - i) % 6);
        Check.due("nights of " + i, x.log(i, 2), Math.min((tellings - 1 - i) / 6, 20));
      }
      Check.due("no more", x.log(size, 0), NONE);
      Check.due("no more", x.log(60, 0), NONE);
    }
  }

  private static void logUndone() {
    Edge.term(2, "UNDONE, too).");
    for (int tellings : new int[] {5, 40, 60, 61, 99, 100, 101, 130, 200}) {
      for (int back : new int[] {1, 20, Math.min(40, tellings)}) {
        int undone = Math.min(back, tellings);
        WinterTellers x = toldSo(tellings);
        for (int i = 0; i < undone; i++) {
          x.undo();
        }
        alikeByLog(undone + " of " + tellings + " undone", x, toldSo(tellings - undone));
        Check.due("how long", x.count(13), Math.min(tellings - undone, 60));
      }
    }
    WinterTellers x = toldSo(100);
    for (int i = 0; i < 40; i++) {
      x.undo();
    }
    for (int i = 60; i < 100; i++) {
      x.tells(i % 6);
    }
    alikeByLog("told once more", x, toldSo(100));
  }

  private static void whys() {
    Edge.promise(17, "WHYS.");
    WinterTellers x = new WinterTellers();
    Check.due("at first", x.count(11), 2);
    for (int v = 0; v < 10; v++) {
      Check.due("whys " + v, x.whys((v + 3) % 10), true);
      Check.due("they are", x.count(11), (v + 3) % 10);
    }
    Edge.promise(17, "False: out of bounds");
    for (int v : new int[] {Integer.MIN_VALUE, -1, 10, 11, Integer.MAX_VALUE}) {
      Twins.refused("whys " + v, Lively::make, y -> y.whys(v) ? 1 : 0, 0, -1);
    }
    Edge.promise(17, "it is so.");
    Twins.refused("whys 6", Lively::make, y -> y.whys(6) ? 1 : 0, 0, -1);
    Twins.refused("whys 2", WinterTellers::new, y -> y.whys(2) ? 1 : 0, 0, -1);
  }

  private static void rounds() {
    Edge.term(4, "YEARS by a seed: n (1 .. 60) rounds, each an ACT");
    Edge.promise(18, "YEARS: the DAY.");
    for (int n : new int[] {1, 2, 39, 40, 41, 59, 60}) {
      WinterTellers x = Check.coast("sb0;h;h;t");
      Check.law(x, "y:2");
      x.whys(0);
      Check.due("the day", x.years(n, 5L), 2 * n);
      Check.due("acts", x.count(14), Math.min(n, 40));
      Check.due("told", x.heard(0, 0), n);
      Check.due("log", x.count(13), n);
      Check.due("one undone", x.undo(), Math.min(n, 40) - 1);
      Check.due("the day then", x.count(5), 2 * n - 2);
    }
    // A round by which nothing happens is one all the same.
    WinterTellers idle = Check.coast("sb0m0;h;h;t");
    idle.whys(0);
    Check.due("the day", idle.years(3, 5L), 0);
    Check.due("acts", idle.count(14), 3);
  }

  /** Draws worked out with numbers of any size. */
  private static final class Drawing {
    private static final BigInteger ALL = BigInteger.ONE.shiftLeft(64);
    private BigInteger x;

    Drawing(long seed) {
      x = BigInteger.valueOf(seed).mod(ALL);
    }

    int of(int j) {
      x = x.multiply(new BigInteger("6364136223846793005")).add(new BigInteger("1442695040888963407")).mod(ALL);
      return x.shiftRight(33).mod(BigInteger.valueOf(j)).intValue();
    }
  }

  private static void draws() {
    Edge.term(4, "a draw of how many HOUSES there are: he GOES there, if he can",
        "then a draw of how many TALES: he TELLS it, if he HAS it", "then a draw of 10: below WHYS",
        "x, at first the seed, becomes x times 6364136223846793005 and 1442695040888963407",
        "a draw of j: (x shifted right by 33, without sign) modulo j.");
    for (int houses = 2; houses <= 6; houses++) {
      for (int tales = 1; tales <= 6; tales++) {
        for (int bread : new int[] {0, 2, 99}) {
          drawnRounds(houses, tales, bread, 31L * houses + tales);
        }
      }
    }
  }

  /** One night a telling, so that no bread comes by it; he has the tales of even numbers. */
  private static void drawnRounds(int houses, int tales, int breadAtFirst, long seed) {
    WinterTellers x = Check.coast("sb" + breadAtFirst + "m21" + ";h".repeat(houses) + ";t".repeat(tales));
    Check.law(x, "y:1");
    int whys = (int) Math.floorMod(seed, 10L);
    x.whys(whys);
    Drawing drawing = new Drawing(seed);
    int at = 0;
    int day = 0;
    int bread = breadAtFirst;
    int nights = 0;
    for (int i = 0; i < 10; i++) {
      int house = drawing.of(houses);
      int far = Math.abs(house - at);
      if (far <= bread) {
        day += far;
        bread -= far;
        at = house;
      }
      int tale = drawing.of(tales);
      if (tale % 2 == 0) {
        day++;
        nights++;
      }
      if (drawing.of(10) < whys) {
        bread += 3;
      }
    }
    Check.due("the day", x.years(10, seed), day);
    EdgesOfActs.counts("ten rounds", x, day, at, 21 & (1 << tales) - 1, bread, nights, 0, whys, 0, nights, 10);
  }

  private static void drawsGoingRound() {
    Edge.term(4, "(64 bits, going round)", "(x shifted right by 33, without sign)");
    long[] seeds = {0L, 1L, -1L, Long.MAX_VALUE, Long.MIN_VALUE, Long.MAX_VALUE - 1, Long.MIN_VALUE + 1, 1L << 32, 1L << 33,
      -(1L << 33), Integer.MAX_VALUE, Integer.MIN_VALUE, 6364136223846793005L, 0x8000000080000000L};
    for (long seed : seeds) {
      drawnRounds(6, 5, 99, seed);
    }
  }

  private static void yearsAndBread() {
    Edge.term(4, "(0 .. 9; 2 at first) BREAD is 3 more (999 at most).");
    for (int bread = 994; bread <= 999; bread++) {
      WinterTellers x = Check.coast("sb0m0;h;h;t");
      for (int i = 0; i < 25 && x.count(8) < bread; i++) {
        x.give(Math.min(50, bread - x.count(8)));
      }
      x.whys(9);
      int found = 0;
      // Seeds by which he stays where he is and the draw of 10 is 8.
      for (long seed = 0; seed < 50; seed++) {
        Drawing drawing = new Drawing(seed);
        boolean stays = drawing.of(2) == 0;
        drawing.of(1);
        if (stays && drawing.of(10) == 8) {
          x.years(1, seed);
          Check.due("three more, 999 at most", x.count(8), Math.min(bread + 3, 999));
          x.undo();
          Check.due("as it was", x.count(8), bread);
          x.whys(8);
          x.years(1, seed);
          Check.due("a draw of 8 is not below 8", x.count(8), bread);
          x.whys(9);
          found++;
        }
      }
      Check.due("such seeds", found > 0, true);
    }
    WinterTellers never = Check.coast("sb0m0;h;h;t");
    never.whys(0);
    never.years(60, 3L);
    Check.due("below 0 is nothing", never.count(8), 0);
    WinterTellers twice = Check.coast("sb0m0;h;h;t");
    int whys = 0;
    Drawing drawing = new Drawing(3L);
    for (int i = 0; i < 60; i++) {
      drawing.of(2);
      drawing.of(1);
      whys += drawing.of(10) < 2 ? 1 : 0;
    }
    twice.years(60, 3L);
    Check.due("two at first", twice.count(8) + twice.count(5), 3 * whys);
    Check.due("some came", whys > 0, true);
  }

  private static void yearsAndTheLastDay() {
    Edge.term(4, "What would go beyond the last DAY is not done.", "No STATUS.");
    // On the last day nothing is done but whys; ahead of it what still goes.
    WinterTellers x = EdgesOfActs.onDay(9999, "sb0;h;h;h;t");
    x.give(50);
    Check.law(x, "y:0");
    int log = x.log(0, 2);
    Check.due("the day", x.years(60, 9L), 9999);
    EdgesOfActs.counts("nothing", x, 9999, 0, 1, 50, x.count(9), 0);
    Check.due("no telling", x.log(0, 2), log);
    EdgesOfActs.statuses("none", x, 0, 0, 0, 0, 0);
    x.whys(9);
    x.years(60, 9L);
    Check.due("whys bring bread", x.count(8) > 50, true);
    Check.due("no day", x.count(5), 9999);
    for (int left = 0; left <= 6; left++) {
      yearsNearTheEnd(left);
    }
    WinterTellers poor = Check.coast("sb0m1;h;h;h;h;h;h;t;t;t;t;t;t");
    poor.years(60, 11L);
    EdgesOfActs.statuses("too little bread, tales he has not", poor, 0, 0, 0, 0, 0);
  }

  /** One round with so many days left, by many seeds: six houses, four nights or none. */
  private static void yearsNearTheEnd(int left) {
    for (String law : new String[] {"y:4", "y:0"}) {
      WinterTellers x = EdgesOfActs.onDay(9999 - left, "sb0;h;h;h;h;h;h;t");
      x.give(9);
      Check.law(x, law);
      int days = law.equals("y:4") ? 4 : 1;
      int all = x.count(9);
      for (long seed = 0; seed < 30; seed++) {
        Drawing drawing = new Drawing(seed);
        int house = drawing.of(6);
        int rest = left - (house <= left ? house : 0);
        boolean tells = days <= rest;
        int day = 9999 - rest + (tells ? days : 0);
        Check.due("the day", x.years(1, seed), day);
        Check.due("where he is", x.count(6), house <= left ? house : 0);
        Check.due("nights", x.count(9) - all, tells && days == 4 ? 4 : 0);
        Check.due("out", x.count(10), tells && days == 1 ? 1 : 0);
        x.undo();
        Check.due("undone", x.count(5), 9999 - left);
      }
      EdgesOfActs.statuses("none", x, 0, 0, 0, 0, 0);
    }
  }

  private static void yearsRefused() {
    Edge.promise(18, "NONE: no COAST");
    Twins.refused("years without a coast", WinterTellers::new, x -> x.years(1, 1L), NONE, -1);
    Edge.promise(18, "out of bounds.");
    for (int n : new int[] {Integer.MIN_VALUE, -1, 0, 61, 62, Integer.MAX_VALUE}) {
      Twins.refused("years " + n, Lively::make, x -> x.years(n, 1L), NONE, -1);
    }
  }

  private static void images() {
    Edge.term(4, "An IMAGE keeps where he is, what he HAS, KNOTS, HEARD, BREAD, the DAY, NIGHTS, OUT, the LOG; BACK: they are so "
        + "again (no ACT can be UNDONE then).");
    Edge.promise(38, "An IMAGE", ": the DAY.");
    Edge.promise(39, "BACK: the DAY.");
    for (int acts : new int[] {0, 1, 7, 8, 40, 41, 70}) {
      for (int more : new int[] {0, 1, 8, 41}) {
        WinterTellers x = acted(acts);
        Check.due("the day", x.image(), x.count(5));
        Check.due("no act", x.count(14), Math.min(acts, 40));
        for (int i = acts; i < acts + more; i++) {
          act(x, i);
        }
        int day = x.back();
        Check.due("the day", day, x.count(5));
        Check.due("no act can be undone", x.count(14), 0);
        alike("back from " + more + " acts", x, acted(acts), false);
        alikeByLog("back from " + more + " acts", x, acted(acts));
        Check.due("none", x.undo(), NONE);
      }
    }
    // So many tellings behind the image that none of its log is left in any row of a hundred.
    for (int tellings : new int[] {10, 60, 100}) {
      WinterTellers x = toldSo(tellings);
      x.image();
      x.goes(1);
      for (int i = 0; i < 130; i++) {
        x.tells(5);
      }
      x.back();
      alikeByLog("back from many tellings", x, toldSo(tellings));
    }
    WinterTellers x = Lively.make();
    int[] due = {x.count(11), x.count(12), x.count(4), x.count(3), x.count(2)};
    x.whys(1);
    x.seen(0, 3, false);
    x.law(1);
    x.end(1);
    x.back();
    int[] then = {1, due[1] + 1, 1, 1, due[4]};
    int[] got = {x.count(11), x.count(12), x.count(4), x.count(3), x.count(2)};
    for (int i = 0; i < 5; i++) {
      Check.due("whys, what was seen, laws, the tape are none of it " + i, got[i], then[i]);
    }
  }

  private static void imagesAgain() {
    Edge.promise(38, "An IMAGE (instead of the one ahead)");
    WinterTellers x = acted(10);
    x.image();
    for (int i = 10; i < 30; i++) {
      act(x, i);
    }
    int day = x.count(5);
    Check.due("another", x.image(), day);
    for (int i = 30; i < 35; i++) {
      act(x, i);
    }
    Check.due("back to the other", x.back(), day);
    alike("as it was then", x, acted(30), false);
    WinterTellers y = acted(10);
    y.image();
    for (int times = 0; times < 3; times++) {
      for (int i = 10; i < 25; i++) {
        act(y, i);
      }
      y.back();
    }
    alike("back as often as one likes", y, acted(10), false);
    alikeByLog("back as often as one likes", y, acted(10));
    WinterTellers z = acted(20);
    z.image();
    for (int i = 0; i < 15; i++) {
      z.undo();
    }
    z.back();
    alike("from behind it, too", z, acted(20), false);
    alikeByLog("from behind it, too", z, acted(20));
    Twins.same("an image where one is", () -> {
      WinterTellers w = Lively.make();
      w.image();
      return w;
    }, WinterTellers::image);
  }

  private static void backRefused() {
    Edge.promise(38, "NONE: no COAST.");
    Twins.refused("image without a coast", WinterTellers::new, WinterTellers::image, NONE, -1);
    Edge.promise(39, "NONE: no IMAGE of this COAST.");
    Twins.refused("back without a coast", WinterTellers::new, WinterTellers::back, NONE, -1);
    Twins.refused("back without an image", () -> acted(9), WinterTellers::back, NONE, -1);
    Twins.refused("back to another coast", () -> {
      WinterTellers x = Lively.with(Lively.COAST);
      x.text(0);
      x.tells(0);
      return x;
    }, WinterTellers::back, NONE, -1);
    WinterTellers x = Lively.with("h;h;t;");
    Check.due("no coast", x.text(0), NONE);
    Check.due("a refused coast leaves the image", x.back() >= 0, true);
    WinterTellers fresh = new WinterTellers();
    fresh.image();
    Check.tell(fresh, "h;h;t");
    Check.due("an image refused is none", fresh.back(), NONE);
  }

  private static void counts() {
    Edge.promise(40, "0 HOUSES, 1 TALES, 2 LAWS, 3 bytes of the TAPE, 4 the LAW that holds (NONE), 5 the DAY, 6 at which HOUSE he is "
        + "(0 without a COAST), 7 which TALES he HAS (bits), 8 BREAD, 9 NIGHTS in all, 10 OUT, 11 WHYS, 12 SEEN, 13 how long the LOG "
        + "is, 14 ACTS that can be UNDONE.");
    WinterTellers x = Check.coast("sb50m6a4;h;h;h;h;h;hk1;t;t;t;t");
    Check.law(x, "y:3-n");
    Check.law(x, "y:9");
    Check.law(x, "y:8");
    x.law(0);
    Check.feed(x, "y:");
    x.whys(9);
    for (int i = 0; i < 5; i++) {
      x.tells(1);
    }
    x.goes(5);
    x.learns(0);
    x.seen(0, 0, true);
    int[] due = {6, 4, 3, 2, 0, 3 + 2 + 1 + 1 + 1 + 1 + 2, 5, 7, 50 + 1 - 2 - 1 - 1, 6, 2, 9, 1, 5, 7};
    for (int i = 0; i < due.length; i++) {
      Check.due("count " + i, x.count(i), due[i]);
    }
    Check.due("where he is without a coast", new WinterTellers().count(6), 0);
    Check.due("no law", new WinterTellers().count(4), NONE);
    Edge.promise(40, "HIDDEN for others.");
    for (int what : NO_WHAT) {
      Twins.refused("count " + what, Lively::make, y -> y.count(what), HIDDEN, -1);
      Twins.refused("count " + what, WinterTellers::new, y -> y.count(what), HIDDEN, -1);
    }
  }

  private static void constants() {
    Edge.term(4, "The constants: `NONE = -1`: None; refused. `HIDDEN = -1000000`: Not told.");
    Check.due("NONE", WinterTellers.NONE, -1);
    Check.due("HIDDEN", WinterTellers.HIDDEN, -1000000);
  }
}
