import java.util.function.Supplier;

/** The terms' second part and promises 11 to 16: heard, nights, and each act by its bounds. */
final class EdgesOfActs {
  private static final int NONE = WinterTellers.NONE;
  private static final int[] NO_INDEX = {Integer.MIN_VALUE, -7, -1, 6, 7, Integer.MAX_VALUE};

  private EdgesOfActs() {}

  static void run() {
    heard();
    nightsByLaw();
    nightsWithoutLaw();
    letters();
    telling();
    breadByTelling();
    putOut();
    tellingRefused();
    going();
    goingRefused();
    learning();
    learningRefused();
    tying();
    tyingRefused();
    resting();
    restingRefused();
    giving();
    givingRefused();
    lastDay();
    theFirstReason();
  }

  static void counts(String what, WinterTellers x, int... due) {
    for (int i = 0; i < due.length; i++) {
      Check.due(what + ": count " + (5 + i), x.count(5 + i), due[i]);
    }
  }

  static void statuses(String what, WinterTellers x, int... due) {
    for (int i = 0; i < due.length; i++) {
      Check.due(what + ": status " + i, x.status(i), due[i]);
    }
  }

  /**
   * On that day, where he was at first and without bread, as he has none and two nights bring none. Law 0 (one night)
   * and law 1 (two) are there, none holds. The coast has to be without bread and he must have tale 0.
   */
  static WinterTellers onDay(int day, String coast) {
    WinterTellers x = Check.coast(coast);
    Check.law(x, "y:1");
    Check.law(x, "y:2");
    x.whys(0);
    int now = 0;
    for (int i = 0; i < 250 && now + 2 <= day; i++) {
      now = x.years(Math.min(60, (day - now) / 2), i);
    }
    x.law(0);
    if (now < day) {
      x.tells(0);
    }
    x.law(NONE);
    Check.due("the day", x.count(5), day);
    Check.due("no bread", x.count(8), 0);
    return x;
  }

  private static WinterTellers with(WinterTellers x, String law) {
    Check.law(x, law);
    return x;
  }

  private static void heard() {
    Edge.term(2, "HEARD of a TALE in a HOUSE: how often (at first 1, if it KNOWS it, else 0; 99 at most)");
    for (int known = 0; known < 4; known++) {
      WinterTellers x = Check.coast("hk" + known + ";hk" + (3 - known) + ";t;t");
      for (int tale = 0; tale < 2; tale++) {
        Check.due("at first", x.heard(0, tale), known >> tale & 1);
        Check.due("at first", x.heard(1, tale), 1 - (known >> tale & 1));
      }
    }
    WinterTellers x = with(Check.coast("hk2;h;t;t"), "y:1");
    for (int i = 1; i <= 102; i++) {
      x.tells(0);
      Check.due("not known at first, told " + i, x.heard(0, 0), Math.min(i, 99));
      x.tells(1);
      Check.due("known at first, told " + i, x.heard(0, 1), Math.min(i + 1, 99));
    }
    Check.due("nothing heard elsewhere", x.house(1, 0), 0);
    x.undo();
    Check.due("still ninety-nine", x.heard(0, 1), 99);
    WinterTellers years = with(Check.coast("sb0;h;h;t"), "y:1");
    years.whys(0);
    years.years(60, 1);
    years.years(38, 1);
    Check.due("ninety-eight in years", years.heard(0, 0), 98);
    years.years(1, 1);
    Check.due("ninety-nine", years.heard(0, 0), 99);
    years.years(1, 1);
    Check.due("ninety-nine at most", years.heard(0, 0), 99);
    years.undo();
    years.undo();
    Check.due("ninety-eight again", years.heard(0, 0), 98);
  }

  private static void nightsByLaw() {
    Edge.term(2, "NIGHTS of a TALE in a HOUSE: WORTH by the LAW that holds, held within 0 .. 20");
    String[] laws = {"y:20", "y:21", "y:9999", "y:9999*9999", "y:19", "y:1", "y:0", "y:0-1", "y:0-9999*9999", "y:1=2?5"};
    int[] due = {20, 20, 20, 20, 19, 1, 0, 0, 0, 0};
    for (int i = 0; i < laws.length; i++) {
      WinterTellers x = with(Check.coast("h;h;t"), laws[i]);
      Check.due("nights by " + laws[i], x.nights(1, 0), due[i]);
      Check.due("told by " + laws[i], x.tells(0), due[i]);
    }
    WinterTellers x = with(with(Check.coast("h;h;t"), "y:3"), "y:4");
    Check.due("by the one that holds", x.nights(0, 0), 4);
    x.law(0);
    Check.due("by the other", x.nights(0, 0), 3);
    x.law(NONE);
    Check.due("by none", x.nights(0, 0), 7);
  }

  private static void nightsWithoutLaw() {
    Edge.term(2, "(none at first: how LONG, if HEARD is less than how OFTEN it still counts, and KNOTS, and how CURIOUS by 3, "
        + "cut, and 2, if it is TRUE, less HEARD)");
    for (int curious = 0; curious < 10; curious++) {
      WinterTellers x = Check.coast("hc" + curious + ";h;tl1k0");
      Check.due("curious " + curious, x.nights(0, 0), 1 + (curious < 3 ? 0 : curious < 6 ? 1 : curious < 9 ? 2 : 3));
    }
    for (int often = 0; often < 10; often++) {
      WinterTellers x = Check.coast("sb0o" + often + ";hc0;h;tl7k9r1");
      for (int heard = 0; heard < 11; heard++) {
        Check.due("often " + often + ", heard " + heard, x.nights(0, 0), (heard < often ? 7 : 0) + 11 - heard);
        x.tells(0);
      }
    }
    Check.due("twenty just", Check.coast("hc9;h;tl9k8").nights(0, 0), 20);
    Check.due("held at twenty", Check.coast("hc9;h;tl9k9").nights(0, 0), 20);
    Check.due("held at twenty", Check.coast("hc9;h;tl9k9r1").nights(0, 0), 20);
    Check.due("one less", Check.coast("hc9;h;tl9k7").nights(0, 0), 19);
    Check.due("true", Check.coast("hc0;h;tl1k0r1").nights(0, 0), 3);
    Check.due("none", Check.coast("hk1c0;h;tl9k1").nights(0, 0), 0);
    Check.due("held at none", Check.coast("hk1c0;h;tl9k0").nights(0, 0), 0);
    Check.due("one", Check.coast("hk1c0;h;tl9k2").nights(0, 0), 1);
  }

  private static void letters() {
    Edge.term(2, "letters: l how LONG, k KNOTS now, c how CURIOUS, n HEARD, w how WARM, r whether TRUE (1, 0)");
    String letters = "lkcnwr";
    int[] atFirst = {7, 4, 8, 1, 6, 1};
    int[] other = {3, 9, 5, 0, 0, 0};
    int[] then = {7, 5, 8, 2, 6, 1};
    for (int i = 0; i < 6; i++) {
      WinterTellers x = with(Check.coast("hc5w0;hk1c8w6;tl7k4r1;tl3k9;sa1"), "y:" + letters.charAt(i));
      Check.due("letter " + letters.charAt(i), x.nights(1, 0), atFirst[i]);
      Check.due("letter " + letters.charAt(i) + " elsewhere", x.nights(0, 1), other[i]);
      x.ties(0);
      x.tells(0);
      Check.due("letter " + letters.charAt(i) + " now", x.nights(1, 0), then[i]);
    }
  }

  private static void telling() {
    Edge.term(2, "By hand he TELLS a TALE that he HAS, where he is: the DAY (0 at first", "is later by NIGHTS",
        "NIGHTS in all (0 at first) are more by these, HEARD is one more");
    Edge.promise(11, "He TELLS: NIGHTS.");
    WinterTellers x = with(Check.coast("sb5m36a5;h;h;h;h;h;h;tl1;tl2;tl3;tl4;tl5;tl6"), "y:l*3-n");
    counts("at first", x, 0, 5, 36, 5, 0, 0);
    Check.due("nights", x.tells(5), 18);
    counts("told", x, 18, 5, 36, 11, 18, 0);
    Check.due("heard", x.heard(5, 5), 1);
    Check.due("the others not", x.house(5, 0), 32);
    Check.due("nor elsewhere", x.heard(0, 5) + x.heard(4, 5), 0);
    Check.due("nights again", x.tells(5), 17);
    counts("told again", x, 35, 5, 36, 16, 35, 0);
    Check.due("another", x.tells(2), 9);
    counts("told another", x, 44, 5, 36, 19, 44, 0);
    Check.due("heard twice", x.heard(5, 5), 2);
    Check.due("heard once", x.heard(5, 2), 1);
    Check.due("acts", x.count(14), 3);
  }

  private static WinterTellers rich(int bread, String coast) {
    WinterTellers x = Check.coast(coast);
    for (int i = 0; i < 40 && x.count(8) < bread; i++) {
      x.give(Math.min(50, bread - x.count(8)));
    }
    Check.due("bread", x.count(8), bread);
    return x;
  }

  private static void breadByTelling() {
    Edge.term(2, "BREAD one more for each 3 of these, cut (999 at most)");
    for (int nights = 1; nights <= 20; nights++) {
      WinterTellers x = with(Check.coast("sb0;h;h;t"), "y:" + nights);
      x.tells(0);
      int[] due = {0, 0, 0, 1, 1, 1, 2, 2, 2, 3, 3, 3, 4, 4, 4, 5, 5, 5, 6, 6, 6};
      Check.due("bread for " + nights, x.count(8), due[nights]);
    }
    for (int bread = 990; bread <= 999; bread++) {
      WinterTellers x = with(rich(bread, "sb0;h;h;t"), "y:20");
      x.tells(0);
      Check.due("bread from " + bread, x.count(8), Math.min(bread + 6, 999));
      Check.due("taken all the same", x.count(5), 20);
      x.undo();
      Check.due("bread again", x.count(8), bread);
      WinterTellers y = with(rich(bread, "sb0;h;h;t"), "y:2");
      y.tells(0);
      Check.due("no bread for two nights", y.count(8), bread);
    }
  }

  private static void putOut() {
    Edge.term(2, "with no NIGHTS he is put OUT (how often: OUT): the DAY is one later, BREAD one less (0 at least)");
    WinterTellers x = with(Check.coast("sb2;h;h;t"), "y:0");
    Check.due("out", x.tells(0), 0);
    counts("out", x, 1, 0, 1, 1, 0, 1);
    Check.due("out", x.tells(0), 0);
    counts("twice", x, 2, 0, 1, 0, 0, 2);
    Check.due("out", x.tells(0), 0);
    counts("with no bread", x, 3, 0, 1, 0, 0, 3);
    Check.due("heard", x.heard(0, 0), 3);
    Check.due("in the log", x.count(13), 3);
    Check.due("by none", x.log(0, 2), 0);
    x.undo();
    x.undo();
    counts("undone", x, 1, 0, 1, 1, 0, 1);
    WinterTellers y = with(Check.coast("sb2;h;h;t"), "y:1");
    y.tells(0);
    counts("one night is none out", y, 1, 0, 1, 2, 1, 0);
  }

  private static void each(String what, int[] indexes, Supplier<WinterTellers> making, Asking asking, int status) {
    for (int i : indexes) {
      Twins.refused(what + " " + i, making, x -> asking.ask(x, i), NONE, status);
    }
  }

  private interface Asking {
    int ask(WinterTellers x, int i);
  }

  private static void tellingRefused() {
    Edge.promise(11, "NONE: no such TALE (STATUS 0)");
    each("tells", NO_INDEX, Lively::make, WinterTellers::tells, 0);
    each("tells", new int[] {2, 3, 5}, () -> Check.coast("h;h;t;t"), WinterTellers::tells, 0);
    each("tells", new int[] {0, 1}, WinterTellers::new, WinterTellers::tells, 0);
    Check.due("the last tale is one", Check.coast("h;h;t;t").tells(1), 7);
    Edge.promise(11, "he has it not (2)");
    each("tells", new int[] {1, 3, 4, 5}, () -> Check.coast("sm5;hk2;hk63;t;t;t;t;t;t"), WinterTellers::tells, 2);
    Check.due("he has it", Check.coast("sm5;hk2;hk63;t;t;t;t;t;t").tells(2), 7);
    WinterTellers x = Check.coast("sm1;hk2;h;t;t");
    Check.due("not yet", x.tells(1), NONE);
    x.learns(1);
    Check.due("learnt", x.tells(1), 2);
    x.undo();
    x.undo();
    Check.due("no more", x.tells(1), NONE);
    statuses("twice", x, 0, 0, 2, 0, 0);
    Edge.promise(11, "beyond 9,999 (4).");
    for (int nights = 0; nights <= 20; nights++) {
      int days = nights == 0 ? 1 : nights;
      String law = "y:" + nights;
      WinterTellers last = with(onDay(9999 - days, "sb0;h;h;t"), law);
      Check.due("just", last.tells(0), nights);
      Check.due("the last day", last.count(5), 9999);
      statuses("none refused", last, 0, 0, 0, 0, 0);
      WinterTellers beyond = with(onDay(10000 - days, "sb0;h;h;t"), law);
      int log = beyond.log(0, 2);
      int all = beyond.count(9);
      Check.due("beyond", beyond.tells(0), NONE);
      Check.due("as it was", beyond.count(5), 10000 - days);
      Check.due("no nights more", beyond.count(9), all);
      Check.due("no telling more", beyond.log(0, 2), log);
      statuses("refused", beyond, 0, 0, 0, 0, 1);
    }
    Twins.refused("tells beyond", () -> with(onDay(9980, "sb0;h;h;t"), "y:20"), y -> y.tells(0), NONE, 4);
    Twins.refused("is put out beyond", () -> with(onDay(9999, "sb0;h;h;t"), "y:0"), y -> y.tells(0), NONE, 4);
  }

  private static void going() {
    Edge.term(2, "He GOES to another HOUSE: the DAY is later by how far it is (by numbers), BREAD is less by as much "
        + "(he can't with less).");
    Edge.promise(12, "He GOES: how far.");
    Edge.promise(12, "too little BREAD (3)");
    for (int from = 0; from < 6; from++) {
      for (int to = 0; to < 6; to++) {
        int far = Math.abs(from - to);
        if (far == 0) {
          continue;
        }
        WinterTellers x = Check.coast("sb" + far + "a" + from + ";h;h;h;h;h;h;t");
        Check.due("with as much", x.goes(to), far);
        counts("gone", x, far, to, 1, 0, 0, 0);
        Check.due("no telling", x.count(13), 0);
        Check.due("an act", x.count(14), 1);
        WinterTellers y = Check.coast("sb" + (far - 1) + "a" + from + ";h;h;h;h;h;h;t");
        Check.due("with less", y.goes(to), NONE);
        counts("not gone", y, 0, from, 1, far - 1, 0, 0);
        statuses("refused", y, 0, 0, 0, 1, 0);
        WinterTellers z = Check.coast("sb" + (far + 1) + "a" + from + ";h;h;h;h;h;h;t");
        Check.due("with more", z.goes(to), far);
        Check.due("bread left", z.count(8), 1);
      }
    }
    Supplier<WinterTellers> poor = () -> {
      WinterTellers x = Lively.with("");
      Check.law(x, "y:0");
      for (int i = 0; i < 40; i++) {
        x.tells(5);
      }
      return x;
    };
    Check.due("no bread", poor.get().count(8), 0);
    Twins.refused("goes without bread", poor, x -> x.goes(1), NONE, 3);
  }

  private static void goingRefused() {
    Edge.promise(12, "NONE: no such HOUSE (STATUS 0)");
    each("goes", NO_INDEX, Lively::make, WinterTellers::goes, 0);
    each("goes", new int[] {4, 5}, Lively::make, WinterTellers::goes, 0);
    each("goes", new int[] {0, 1}, WinterTellers::new, WinterTellers::goes, 0);
    Check.due("the last house is one", Lively.make().goes(3), 1);
    Edge.promise(12, "he is there (2)");
    Twins.refused("goes where he is", Lively::make, x -> x.goes(2), NONE, 2);
    for (int at = 0; at < 6; at++) {
      int house = at;
      Twins.refused("goes where he is", () -> Check.coast("sa" + house + ";h;h;h;h;h;h;t"), x -> x.goes(house),
          NONE, 2);
    }
    Edge.promise(12, "beyond 9,999 (4).");
    String coast = "sb0;h;h;h;h;h;h;t";
    for (int far = 1; far <= 5; far++) {
      int to = far;
      WinterTellers just = onDay(9999 - far, coast);
      just.give(9);
      Check.due("just", just.goes(to), far);
      Check.due("the last day", just.count(5), 9999);
      Check.due("there", just.count(6), to);
      WinterTellers beyond = onDay(10000 - far, coast);
      beyond.give(9);
      Check.due("beyond", beyond.goes(to), NONE);
      counts("not gone", beyond, 10000 - far, 0, 1, 9);
      statuses("refused", beyond, 0, 0, 0, 0, 1);
      Check.due("a nearer one", far == 1 ? 0 : beyond.goes(to - 1), far - 1);
    }
    Twins.refused("goes beyond", () -> {
      WinterTellers x = onDay(9999, coast);
      x.give(9);
      return x;
    }, x -> x.goes(1), NONE, 4);
  }

  private static void learning() {
    Edge.term(2, "He LEARNS a TALE that the HOUSE he is at has HEARD and that he has not: the DAY is 2 later, BREAD one less "
        + "(he can't with none).");
    Edge.promise(13, "He LEARNS: how many TALES he HAS then.");
    WinterTellers x = Check.coast("sb6m0;hk63;h;t;t;t;t;t;t");
    for (int tale = 5; tale >= 0; tale--) {
      Check.due("how many then", x.learns(tale), 6 - tale);
      counts("learnt", x, 2 * (6 - tale), 0, 63 - (1 << tale) + 1, tale, 0, 0);
    }
    Check.due("no more heard by it", x.heard(0, 0), 1);
    Check.due("no telling", x.count(13), 0);
    Check.due("acts", x.count(14), 6);
    Edge.promise(13, "too little BREAD (3)");
    Check.due("with one", Check.coast("sb1m0;hk1;h;t").learns(0), 1);
    Twins.refused("learns with none", () -> Check.coast("sb0m0;hk1;h;t"), y -> y.learns(0), NONE, 3);
    WinterTellers once = Check.coast("sb1m2;hk1;h;t;t");
    once.learns(0);
    Check.due("has both", once.count(7), 3);
    Check.due("bread", once.count(8), 0);
  }

  private static void learningRefused() {
    Edge.promise(13, "NONE: no such TALE (STATUS 0)");
    each("learns", NO_INDEX, Lively::make, WinterTellers::learns, 0);
    each("learns", new int[] {2, 3}, () -> Check.coast("sm0;hk63;h;t;t"), WinterTellers::learns, 0);
    each("learns", new int[] {0, 1}, WinterTellers::new, WinterTellers::learns, 0);
    Edge.promise(13, "he has it, not HEARD there (2)");
    each("learns what he has:", new int[] {0, 1, 2, 3, 4, 5}, Lively::make, WinterTellers::learns, 2);
    each("learns what is not heard there:", new int[] {0, 1, 2}, () -> Check.coast("sm0;h;hk7;t;t;t"), WinterTellers::learns, 2);
    WinterTellers x = Check.coast("sb9m1;h;hk2;t;t");
    Check.due("not heard here", x.learns(1), NONE);
    x.goes(1);
    Check.due("but there", x.learns(1), 2);
    Check.due("has it now", x.learns(1), NONE);
    x.goes(0);
    x.tells(1);
    Check.due("has it, heard", x.learns(1), NONE);
    statuses("three", x, 0, 0, 3, 0, 0);
    Edge.promise(13, "beyond 9,999 (4).");
    String coast = "sb0m1;hk2;h;t;t";
    for (int day = 9996; day <= 9999; day++) {
      WinterTellers y = onDay(day, coast);
      y.give(1);
      Check.due("learns on " + day, y.learns(1), day <= 9997 ? 2 : NONE);
      counts("then", y, day <= 9997 ? day + 2 : day, 0, day <= 9997 ? 3 : 1, day <= 9997 ? 0 : 1);
      statuses("then", y, 0, 0, 0, 0, day <= 9997 ? 0 : 1);
    }
    Twins.refused("learns beyond", () -> {
      WinterTellers y = onDay(9998, coast);
      y.give(1);
      return y;
    }, y -> y.learns(1), NONE, 4);
  }

  private static void tying() {
    Edge.term(2, "He ties a KNOT (9 at most; 2 BREAD) into a TALE he HAS.");
    Edge.promise(14, "A KNOT: KNOTS then.");
    for (int tale = 0; tale < 6; tale++) {
      WinterTellers x = Check.coast("sb20;h;h" + ";tk0".repeat(6));
      for (int knots = 1; knots <= 9; knots++) {
        Check.due("knots", x.ties(tale), knots);
        counts("tied", x, 0, 0, 63, 20 - 2 * knots, 0, 0);
      }
      Check.due("a tenth", x.ties(tale), NONE);
      statuses("nine", x, 0, 0, 1, 0, 0);
      for (int other = 0; other < 6; other++) {
        Check.due("knots of " + other, x.tale(other, 1), other == tale ? 9 : 0);
      }
      Check.due("acts", x.count(14), 9);
    }
  }

  private static void tyingRefused() {
    Edge.promise(14, "NONE: no such TALE (STATUS 0)");
    each("ties", NO_INDEX, Lively::make, WinterTellers::ties, 0);
    each("ties", new int[] {1, 2}, () -> Check.coast("h;h;t"), WinterTellers::ties, 0);
    each("ties", new int[] {0, 1}, WinterTellers::new, WinterTellers::ties, 0);
    Edge.promise(14, "he has it not, nine (2)");
    each("ties what he has not:", new int[] {1, 3, 4, 5}, () -> Check.coast("sm5;hk63;h;t;t;t;t;t;t"), WinterTellers::ties, 2);
    Twins.refused("nine as told", () -> Check.coast("h;h;tk9"), x -> x.ties(0), NONE, 2);
    Twins.refused("nine", Lively::make, x -> x.ties(1), NONE, 2);
    Check.due("eight", Check.coast("h;h;tk8").ties(0), 9);
    Edge.promise(14, "too little BREAD (3).");
    Twins.refused("none", () -> Check.coast("sb0;h;h;t"), x -> x.ties(0), NONE, 3);
    Twins.refused("one", () -> Check.coast("sb1;h;h;t"), x -> x.ties(0), NONE, 3);
    WinterTellers x = Check.coast("sb2;h;h;t");
    Check.due("two", x.ties(0), 3);
    Check.due("none left", x.count(8), 0);
    WinterTellers last = onDay(9999, "sb0;h;h;t");
    last.give(3);
    Check.due("it takes no day", last.ties(0), 3);
    Check.due("the last day", last.count(5), 9999);
    statuses("none refused", last, 0, 0, 0, 0, 0);
  }

  private static void resting() {
    Edge.term(2, "He RESTS: the DAY is one later, BREAD less by 1, if the HOUSE is less WARM than 5 (he can't with none then).");
    Edge.promise(15, "He RESTS: BREAD then.");
    for (int warm = 0; warm < 10; warm++) {
      WinterTellers x = Check.coast("sb1a1;hw" + (9 - warm) + ";hw" + warm + ";t");
      Check.due("bread then, warm " + warm, x.rest(), warm < 5 ? 0 : 1);
      counts("rested", x, 1, 1, 1, warm < 5 ? 0 : 1, 0, 0);
      WinterTellers y = Check.coast("sb0a1;hw" + (9 - warm) + ";hw" + warm + ";t");
      Check.due("with none, warm " + warm, y.rest(), warm < 5 ? NONE : 0);
      Check.due("the day", y.count(5), warm < 5 ? 0 : 1);
      statuses("with none", y, 0, 0, 0, warm < 5 ? 1 : 0, 0);
      Check.due("acts", y.count(14), warm < 5 ? 0 : 1);
    }
  }

  private static void restingRefused() {
    Edge.promise(15, "NONE: no COAST (STATUS 0)");
    Twins.refused("no coast", WinterTellers::new, WinterTellers::rest, NONE, 0);
    Edge.promise(15, "too little BREAD (3)");
    Twins.refused("none", () -> Check.coast("sb0;hw4;hw5;t"), WinterTellers::rest, NONE, 3);
    Edge.promise(15, "beyond 9,999 (4).");
    for (int warm = 4; warm < 6; warm++) {
      String coast = "sb0;hw" + warm + ";h;t";
      WinterTellers x = onDay(9998, coast);
      x.give(2);
      Check.due("the last day", x.rest(), warm == 4 ? 1 : 2);
      Check.due("the last day", x.count(5), 9999);
      Check.due("beyond", x.rest(), NONE);
      statuses("refused", x, 0, 0, 0, 0, 1);
      Twins.refused("rests beyond", () -> {
        WinterTellers y = onDay(9999, coast);
        y.give(2);
        return y;
      }, WinterTellers::rest, NONE, 4);
    }
  }

  private static void giving() {
    Edge.term(2, "BREAD is given (1 .. 50; 999 at most).");
    Edge.promise(16, "BREAD is given: BREAD then.");
    for (int n = 1; n <= 50; n++) {
      WinterTellers x = Check.coast("sb9;h;h;t");
      Check.due("bread then", x.give(n), 9 + n);
      counts("given", x, 0, 0, 1, 9 + n, 0, 0);
      Check.due("an act", x.count(14), 1);
      WinterTellers y = rich(999 - n, "sb0;h;h;t");
      Check.due("just", y.give(n), 999);
      WinterTellers z = rich(1000 - n, "sb0;h;h;t");
      Check.due("above", z.give(n), NONE);
      Check.due("bread as it was", z.count(8), 1000 - n);
      statuses("refused", z, 0, 1, 0, 0, 0);
    }
    WinterTellers last = onDay(9999, "sb0;h;h;t");
    Check.due("it takes no day", last.give(50), 50);
  }

  private static void givingRefused() {
    Edge.promise(16, "NONE: no COAST (STATUS 0)");
    for (int n : new int[] {Integer.MIN_VALUE, -1, 0, 1, 50, 51, Integer.MAX_VALUE}) {
      Twins.refused("gives " + n, WinterTellers::new, x -> x.give(n), NONE, 0);
    }
    Edge.promise(16, "out of bounds");
    for (int n : new int[] {Integer.MIN_VALUE, -50, -1, 0, 51, 999, Integer.MAX_VALUE}) {
      Twins.refused("gives " + n, Lively::make, x -> x.give(n), NONE, 1);
    }
    Edge.promise(16, "above 999 (1).");
    Twins.refused("one above", () -> rich(999, "h;h;t"), x -> x.give(1), NONE, 1);
    Twins.refused("fifty above", () -> rich(950, "h;h;t"), x -> x.give(50), NONE, 1);
    Check.due("forty-nine", rich(950, "h;h;t").give(49), 999);
  }

  private static void lastDay() {
    Edge.term(2, "9,999 at most: nothing that goes beyond can be)");
    WinterTellers x = onDay(9999, "sb0m1;hk2w9;h;t;t");
    x.give(20);
    Check.law(x, "y:5");
    Check.due("tells", x.tells(0), NONE);
    Check.due("goes", x.goes(1), NONE);
    Check.due("learns", x.learns(1), NONE);
    Check.due("rests", x.rest(), NONE);
    statuses("four", x, 0, 0, 0, 0, 4);
    Check.due("years", x.years(60, 7L), 9999);
    counts("as it was", x, 9999, 0, 1, 20);
    x.undo();
    x.undo();
    statuses("none more", x, 0, 0, 0, 0, 4);
    for (int i = 0; i < 38; i++) {
      x.undo();
    }
    Check.due("rounds that did nothing were acts", x.count(5), 9999);
    WinterTellers y = onDay(9999, "sb0;hw9;h;t");
    y.undo();
    Check.due("the day ahead of the last", y.count(5), 9998);
    Check.due("a day that was undone can be once more", y.rest(), 0);
    Check.due("the last day", y.count(5), 9999);
  }

  private static void theFirstReason() {
    Edge.term(2, "of several the first");
    String coast = "sb0m15;hk16;h;h;t;t;t;t;t;t";
    Supplier<WinterTellers> end = () -> onDay(9999, coast);
    Twins.refused("tells no such one, beyond", end, x -> x.tells(6), NONE, 0);
    Twins.refused("tells what he has not, beyond", end, x -> x.tells(4), NONE, 2);
    Twins.refused("goes to no such one without bread, beyond", end, x -> x.goes(3), NONE, 0);
    Twins.refused("goes where he is, beyond", end, x -> x.goes(0), NONE, 2);
    Twins.refused("goes without bread, beyond", end, x -> x.goes(2), NONE, 3);
    Twins.refused("learns no such one without bread, beyond", end, x -> x.learns(6), NONE, 0);
    Twins.refused("learns what he has without bread, beyond", end, x -> x.learns(0), NONE, 2);
    Twins.refused("learns what is not heard there without bread, beyond", end, x -> x.learns(5), NONE, 2);
    Twins.refused("learns without bread, beyond", end, x -> x.learns(4), NONE, 3);
    Twins.refused("ties no such one without bread", end, x -> x.ties(6), NONE, 0);
    Twins.refused("ties what he has not without bread", end, x -> x.ties(4), NONE, 2);
    Twins.refused("nine, without bread", () -> Check.coast("sb0;h;h;tk9"), x -> x.ties(0), NONE, 2);
    Twins.refused("rests without bread, beyond", end, WinterTellers::rest, NONE, 3);
    Twins.refused("gives too much without a coast", WinterTellers::new, x -> x.give(51), NONE, 0);
    Supplier<WinterTellers> fed = () -> {
      WinterTellers x = onDay(9999, coast);
      x.give(2);
      return x;
    };
    Twins.refused("goes with bread, beyond", fed, x -> x.goes(2), NONE, 4);
    Twins.refused("learns with bread, beyond", fed, x -> x.learns(4), NONE, 4);
    Twins.refused("rests with bread, beyond", fed, WinterTellers::rest, NONE, 4);
  }
}
