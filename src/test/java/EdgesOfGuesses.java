import java.util.function.Supplier;

/** The terms' third part, of what was told, two tellers, odds and shares: promises 26 to 31 and 33. */
final class EdgesOfGuesses {
  private static final int NONE = WinterTellers.NONE;
  private static final int HIDDEN = WinterTellers.HIDDEN;
  private static final int[] NO_INDEX = {Integer.MIN_VALUE, -7, -1, 6, 7, Integer.MAX_VALUE};
  private static final int[] NOT_0_20 = {Integer.MIN_VALUE, -1, 21, 22, Integer.MAX_VALUE};
  private static final String SIX = "h;h;h;tl1;tl2;tl3;tl4;tl5;tl6";

  private EdgesOfGuesses() {}

  static void run() {
    seen();
    seenAsTold();
    seenRefused();
    told();
    toldRefused();
    ask();
    askRefused();
    game();
    gameOnceMore();
    gameRefused();
    rests();
    restsRefused();
    odds();
    oddsAreCut();
    oddsRefused();
    shares();
    sharesRefused();
  }

  private static WinterTellers by(String coast, String law) {
    return EdgesOfPlans.by(coast, law);
  }

  private static void seen() {
    Edge.term(3, "somebody stayed v (0 .. 20) NIGHTS or more in a HOUSE with a TALE, always the same one, or did not.");
    Edge.promise(26, "SEEN: how many there are.");
    // Nights: 0, 4, 8, 12, 16, 20.
    for (int v = 0; v <= 20; v++) {
      int more = 6 - (v + 3) / 4;
      WinterTellers x = by(SIX, "y:l*4-4");
      Check.due("seen", x.seen(0, v, true), 1);
      Check.due("stayed " + v + " or more", x.told(NONE), more);
      Check.due("the last of them", x.told(more - 1), 5);
      WinterTellers y = by(SIX, "y:l*4-4");
      Check.due("seen", y.seen(0, v, false), 1);
      Check.due("did not stay " + v, y.told(NONE), 6 - more);
      Check.due("the first of them", y.told(0), more == 6 ? NONE : 0);
    }
    // Always the same one: what is so in each of the houses.
    WinterTellers x = by("sm0;hk7;hk14;hk28;t;t;t;t;t;t", "y:n*5");
    Check.due("all at first", x.told(NONE), 6);
    x.seen(0, 5, true);
    Check.due("three", x.told(NONE), 3);
    x.seen(1, 5, true);
    Check.due("two of them", x.told(NONE), 2);
    x.seen(2, 5, true);
    Check.due("one", x.told(NONE), 1);
    Check.due("that", x.told(0), 2);
    x.seen(2, 6, false);
    Check.due("still", x.told(0), 2);
    x.seen(2, 5, false);
    Check.due("none any more", x.told(NONE), 0);
  }

  private static void seenAsTold() {
    Edge.term(3, "as told (nothing HEARD but what a HOUSE KNOWS, KNOTS as told)");
    WinterTellers x = by("sb50;hk2;h;t;t;t", "y:k-n");
    x.seen(0, 2, true);
    x.tells(0);
    x.tells(0);
    x.ties(1);
    x.ties(1);
    Check.due("nights now", x.nights(0, 0), 0);
    Check.due("nights now", x.nights(0, 1), 3);
    Check.due("as told", x.told(NONE), 2);
    Check.due("the first", x.told(0), 0);
    Check.due("the second", x.told(1), 2);
    Check.due("asks as told", x.ask(2), 0);
    x.undo();
    Check.due("what was seen is not undone", x.count(12), 1);
    WinterTellers known = by("hk5;h;t;t;t", "y:5-n");
    known.seen(0, 5, true);
    Check.due("what it knows was heard once, the others never", known.told(NONE), 1);
    Check.due("that", known.told(0), 1);
    known.seen(0, 6, true);
    Check.due("never is not less than that", known.told(NONE), 0);
    WinterTellers once = by("hk5;h;t;t;t", "y:5-n");
    once.seen(0, 4, true);
    once.seen(0, 5, false);
    Check.due("once is once", once.told(NONE), 2);
    x.law(NONE);
    // 4 long, 2 knots, curious 3: 7, or 2 if it knows it.
    Check.due("by the law that holds now", x.told(NONE), 3);
    x.image();
    x.seen(0, 3, true);
    Check.due("by none", x.told(NONE), 2);
    x.back();
    Check.due("an image has nothing of it", x.count(12), 2);
  }

  private static WinterTellers seenTen() {
    WinterTellers x = Lively.make();
    for (int i = 4; i <= 10; i++) {
      Check.due("seen", x.seen(i % 4, 0, true), i);
    }
    return x;
  }

  private static void seenRefused() {
    Edge.promise(26, "NONE: no such HOUSE");
    for (int house : NO_INDEX) {
      Twins.refused("seen " + house, Lively::make, x -> x.seen(house, 0, true), NONE, -1);
    }
    Twins.refused("seen 4 of four", Lively::make, x -> x.seen(4, 0, false), NONE, -1);
    Twins.refused("no coast", WinterTellers::new, x -> x.seen(0, 0, true), NONE, -1);
    Check.due("the last house", Lively.make().seen(3, 0, true), 4);
    Edge.promise(26, "out of bounds");
    for (int v : NOT_0_20) {
      Twins.refused("seen 0 " + v, Lively::make, x -> x.seen(0, v, false), NONE, -1);
    }
    Check.due("none", Lively.make().seen(0, 0, true), 4);
    Check.due("twenty", Lively.make().seen(0, 20, false), 4);
    Edge.term(3, "SEEN (10 at most)");
    Edge.promise(26, "there are ten.");
    Twins.refused("an eleventh", EdgesOfGuesses::seenTen, x -> x.seen(0, 20, true), NONE, -1);
    Twins.refused("an eleventh", EdgesOfGuesses::seenTen, x -> x.seen(3, 0, true), NONE, -1);
    WinterTellers x = by(SIX, "y:l");
    for (int i = 0; i < 9; i++) {
      x.seen(0, 0, true);
    }
    Check.due("the tenth", x.seen(0, 6, true), 10);
    Check.due("counts", x.told(NONE), 1);
    Check.due("no eleventh", x.seen(0, 7, true), NONE);
    Check.due("it does not count", x.told(NONE), 1);
    Check.tell(x, SIX);
    Check.due("none of a new coast", x.seen(0, 0, true), 1);
  }

  private static void told() {
    Edge.term(3, "TOLD: which TALES it may be so that all SEEN is so: how many, the i-th (rising).");
    Edge.promise(27, "TOLD: how many (i NONE), the i-th.");
    for (int known = 0; known < 64; known++) {
      WinterTellers x = by("sm0;hk" + known + ";h;t;t;t;t;t;t", "y:n");
      x.seen(0, 1, true);
      Check.due("how many", x.told(NONE), Integer.bitCount(known));
      int i = 0;
      for (int tale = 0; tale < 6; tale++) {
        if ((known >> tale & 1) != 0) {
          Check.due("the " + i + "-th of " + known, x.told(i), tale);
          i++;
        }
      }
      Check.due("no more", x.told(i), NONE);
    }
    WinterTellers x = Check.coast("sm0;h;h;t;t");
    Check.due("all without anything seen", x.told(NONE), 2);
    Check.due("the last", x.told(1), 1);
  }

  private static void toldRefused() {
    Edge.promise(27, "NONE: no such one");
    for (int i : new int[] {Integer.MIN_VALUE, -3, -2, 6, 7, Integer.MAX_VALUE}) {
      Twins.refused("told " + i, Lively::make, x -> x.told(i), NONE, -1);
      Twins.refused("told " + i, () -> Check.coast(SIX), x -> x.told(i), NONE, -1);
    }
    Twins.refused("the first of none", () -> {
      WinterTellers x = Check.coast(SIX);
      x.seen(0, 0, false);
      return x;
    }, x -> x.told(0), NONE, -1);
    Edge.promise(27, "no COAST.");
    Twins.refused("told", WinterTellers::new, x -> x.told(NONE), NONE, -1);
    Twins.refused("told", WinterTellers::new, x -> x.told(0), NONE, -1);
  }

  private static void ask() {
    Edge.term(3, "ASK for v: the HOUSE by which v NIGHTS or more and less are least apart in number among these (of several the lowest).");
    Edge.promise(28, "ASK.");
    // In each house so many of six have nine nights: which one is nearest to three.
    int[] sets = {0, 1, 3, 7, 15, 31, 63};
    for (int a = 0; a < 7; a++) {
      for (int b = 0; b < 7; b++) {
        WinterTellers x = by("sm0;hk" + sets[a] + ";hk" + sets[b] + ";t;t;t;t;t;t", "y:n*9");
        Check.due(a + " and " + b + " of six", x.ask(9), Math.abs(a - 3) <= Math.abs(b - 3) ? 0 : 1);
      }
    }
    WinterTellers x = by("hk63;hk31;hk15;h;hk56;hk7;t;t;t;t;t;t", "y:n*9");
    Check.due("three and three", x.ask(9), 4);
    Check.due("nine just", x.ask(1), 4);
    Check.due("none has ten: of several the lowest", x.ask(10), 0);
    Check.due("all have none or more: of several the lowest", x.ask(0), 0);
    Check.due("twenty", x.ask(20), 0);
    // Among these alone: tales 0 to 3, of which two are known in no house but the last but one.
    x.seen(2, 9, true);
    Check.due("four left", x.told(NONE), 4);
    Check.due("one of four, and three of four: the lowest", x.ask(9), 4);
    x.seen(4, 9, false);
    Check.due("three left", x.told(NONE), 3);
    Check.due("all or none of three everywhere", x.ask(9), 0);
    WinterTellers one = by("h;hk1;t", "y:n*9");
    Check.due("of one tale", one.ask(9), 0);
  }

  private static void askRefused() {
    Edge.promise(28, "NONE: nothing fits");
    Supplier<WinterTellers> nothing = () -> {
      WinterTellers x = Lively.make();
      x.seen(0, 0, false);
      return x;
    };
    for (int v : new int[] {0, 1, 20}) {
      Twins.refused("ask " + v, nothing, x -> x.ask(v), NONE, -1);
    }
    Edge.promise(28, "no COAST");
    Twins.refused("ask", WinterTellers::new, x -> x.ask(0), NONE, -1);
    Edge.promise(28, "out of bounds.");
    for (int v : NOT_0_20) {
      Twins.refused("ask " + v, Lively::make, x -> x.ask(v), NONE, -1);
    }
    Check.due("none", by(SIX, "y:l").ask(0), 0);
    Check.due("twenty", by(SIX, "y:l").ask(20), 0);
  }

  private static void game() {
    Edge.term(3, "GAME in a HOUSE: x, y (0 .. 5) which TALE the first tells and then the second: what one has: NIGHTS",
        "3 less, if the other has more NIGHTS, 5 less besides for a TALE that there is not (0 NIGHTS).");
    Edge.promise(29, "GAME: what the one has (0), the other (1).");
    // Nights: 5, 5, 8, heard once more 3, 3, 6; the others are not there.
    int[][] first = {{5, 5, 2, 5, 5, 5}, {5, 5, 2, 5, 5, 5}, {8, 8, 8, 8, 8, 8}, {-8, -8, -8, -5, -5, -5}};
    int[][] second = {{0, 5, 8, -8, -8, -8}, {5, 0, 8, -8, -8, -8}, {2, 2, 3, -8, -8, -8}, {5, 5, 8, -5, -5, -5}};
    WinterTellers x = by("sm0;hc9;h;tk5;tk5;tk8", "y:k-n*2");
    for (int a = 0; a < 6; a++) {
      for (int b = 0; b < 6; b++) {
        Check.due("the first by " + a + " and " + b, x.game(1, a, b, 0), first[Math.min(a, 3)][b]);
        Check.due("the second by " + a + " and " + b, x.game(1, a, b, 1), second[Math.min(a, 3)][b]);
      }
    }
    WinterTellers none = by("h;h;tk0;tk1;tk0", "y:k");
    Check.due("no nights against no tale", none.game(0, 0, 5, 0), 0);
    Check.due("no tale against no nights", none.game(0, 0, 5, 1), -5);
    Check.due("no nights against one", none.game(0, 0, 1, 0), -3);
    Check.due("as many", none.game(0, 0, 2, 0), 0);
    Check.due("as many", none.game(0, 0, 2, 1), 0);
    WinterTellers all = by("h;h;h;h;h;h;tk1;tk2;tk3;tk4;tk5;tk6", "y:k*4");
    Check.due("the last tale", all.game(5, 5, 0, 0), 20);
    Check.due("against the first", all.game(5, 5, 0, 1), 1);
    Check.due("held at twenty both", all.game(5, 5, 4, 1), 20);
  }

  private static void gameOnceMore() {
    Edge.term(3, "(HEARD one more for the second, if it is the same one)");
    WinterTellers x = by("hk1;h;t;t", "y:n*4");
    Check.due("heard once", x.game(0, 0, 0, 0), 4 - 3);
    Check.due("heard twice then", x.game(0, 0, 0, 1), 8);
    Check.due("another is not heard", x.game(0, 0, 1, 1), 0 - 3);
    Check.due("nor is it in another house", x.game(1, 0, 0, 0), 0 - 3);
    Check.due("once there then", x.game(1, 0, 0, 1), 4);
    WinterTellers most = by("hk1;h;t", "y:n=99?5;y:n=98?4;y:0");
    for (int i = 0; i < 97; i++) {
      most.tells(0);
    }
    Check.due("ninety-eight", most.game(0, 0, 0, 0), 4 - 3);
    Check.due("ninety-nine then", most.game(0, 0, 0, 1), 5);
    most.tells(0);
    Check.due("ninety-nine", most.game(0, 0, 0, 0), 5);
    Check.due("ninety-nine at most", most.game(0, 0, 0, 1), 5);
  }

  private static void gameRefused() {
    Edge.promise(29, "HIDDEN: no such HOUSE");
    for (int house : NO_INDEX) {
      Twins.refused("game " + house, Lively::make, x -> x.game(house, 0, 0, 0), HIDDEN, -1);
    }
    Twins.refused("game 4 of four", Lively::make, x -> x.game(4, 0, 0, 0), HIDDEN, -1);
    Twins.refused("no coast", WinterTellers::new, x -> x.game(0, 0, 0, 0), HIDDEN, -1);
    Edge.promise(29, "out of bounds.");
    for (int i : NO_INDEX) {
      Twins.refused("game 0 " + i, Lively::make, x -> x.game(0, i, 0, 0), HIDDEN, -1);
      Twins.refused("game 0 0 " + i, Lively::make, x -> x.game(0, 0, i, 1), HIDDEN, -1);
    }
    for (int what : new int[] {Integer.MIN_VALUE, -1, 2, 3, Integer.MAX_VALUE}) {
      Twins.refused("game 0 0 0 " + what, Lively::make, x -> x.game(0, 0, 0, what), HIDDEN, -1);
    }
  }

  private static void rests(String coast, String law, int... due) {
    WinterTellers x = by(coast, law);
    Check.due("rests of " + coast + " by " + law, x.rests(0, NONE), due.length);
    for (int i = 0; i < due.length; i++) {
      Check.due("rest " + i + " of " + coast + " by " + law, x.rests(0, i), due[i]);
    }
    Check.due("no more rests of " + coast + " by " + law, x.rests(0, due.length), NONE);
  }

  private static void rests() {
    Edge.term(3, "RESTS: 10 times x and y (TALES there are) by which neither has more by another of his own: how many, the i-th (rising).");
    Edge.promise(30, "RESTS: how many (i NONE), the i-th.");
    int[] all = new int[36];
    for (int i = 0; i < 36; i++) {
      all[i] = i / 6 * 10 + i % 6;
    }
    rests("h;h;t;t;t;t;t;t", "y:0", all);
    rests("h;h;t;t;t;t;t;t", "y:7", all);
    rests("h;h;t", "y:0", 0);
    rests("h;h;t", "y:5-n", 0);
    rests("h;h;tk5;tk5;tk8", "y:k-n*2", 22);
    rests("h;h;tk1;tk2;tk3;tk4;tk5;tk6", "y:k", 55);
    // The second keeps away from what the first told: each other pair is one.
    rests("h;h;t;t;t", "y:5-n*5", 1, 2, 10, 12, 20, 21);
    rests("h;h;t;t", "y:5-n*5", 1, 10);
    // The second has more by the same one, and the first less by it: none.
    rests("h;h;t;t", "y:5+n", new int[0]);
    // He need not have them, and where he is does not matter.
    rests("sm0a1;h;h;t;t", "y:5-n*5", 1, 10);
    WinterTellers x = by("hk2;h;tk4;tk4", "y:k-n*3");
    // Known there, the other tale has one night, as the first has heard once more: the second has either alike.
    Check.due("in house 0", x.rests(0, NONE), 2);
    Check.due("in house 0", x.rests(0, 0), 0);
    Check.due("in house 0", x.rests(0, 1), 1);
    Check.due("in house 1", x.rests(1, NONE), 2);
    Check.due("in house 1", x.rests(1, 1), 10);
  }

  private static void restsRefused() {
    Edge.promise(30, "NONE: no such one");
    int size = Lively.make().rests(0, NONE);
    for (int i : new int[] {Integer.MIN_VALUE, -3, -2, size, size + 1, 36, Integer.MAX_VALUE}) {
      Twins.refused("rests 0 " + i, Lively::make, x -> x.rests(0, i), NONE, -1);
    }
    Twins.refused("the thirty-seventh", () -> by("h;h;t;t;t;t;t;t", "y:0"), x -> x.rests(0, 36), NONE, -1);
    Twins.refused("the first of none", () -> by("h;h;t;t", "y:5+n"), x -> x.rests(0, 0), NONE, -1);
    Edge.promise(30, "no such HOUSE.");
    for (int house : NO_INDEX) {
      Twins.refused("rests " + house, Lively::make, x -> x.rests(house, NONE), NONE, -1);
      Twins.refused("rests " + house, Lively::make, x -> x.rests(house, 0), NONE, -1);
    }
    Twins.refused("rests 4 of four", Lively::make, x -> x.rests(4, NONE), NONE, -1);
    Twins.refused("no coast", WinterTellers::new, x -> x.rests(0, NONE), NONE, -1);
  }

  private static void odds() {
    Edge.term(3, "ODDS of a TALE in a HOUSE for a chance (0 .. 100) and v (0 .. 20): ahead of each of its NIGHTS but the first he is cut off by "
        + "chance (he stays no more then): of 10 to the 9 parts those by which he stays v NIGHTS or more");
    Edge.promise(31, "ODDS.");
    for (int nights = 0; nights <= 20; nights++) {
      WinterTellers x = by("sm0;h;h;t", "y:" + nights);
      for (int v = 0; v <= 20; v++) {
        Check.due(v + " of " + nights + ", never cut off", x.odds(1, 0, 0, v), v <= nights ? 1000000000 : 0);
        Check.due(v + " of " + nights + ", always cut off", x.odds(1, 0, 100, v), v <= nights && v <= 1 ? 1000000000 : 0);
        int half = v > nights ? 0 : v <= 1 ? 1000000000 : v <= 10 ? 1000000000 >> v - 1 : -1;
        if (half >= 0) {
          Check.due(v + " of " + nights + ", by halves", x.odds(1, 0, 50, v), half);
        }
      }
    }
    WinterTellers now = by("h;h;t", "y:3-n");
    Check.due("three now", now.odds(0, 0, 0, 3), 1000000000);
    now.tells(0);
    Check.due("two now", now.odds(0, 0, 0, 3), 0);
    Check.due("elsewhere three", now.odds(1, 0, 0, 3), 1000000000);
  }

  private static void oddsAreCut() {
    Edge.term(3, "(of the part that still stays chance 100ths, cut, go).");
    WinterTellers x = by("h;h;t", "y:20");
    int[] one = {1000000000, 1000000000, 990000000, 980100000, 970299000, 960596010, 950990050, 941480150};
    for (int v = 0; v < one.length; v++) {
      Check.due("one of a hundred, " + v, x.odds(0, 0, 1, v), one[v]);
    }
    // What is less than one part does not go: the last part stays.
    int[] most = {1000000000, 1000000000, 10000000, 100000, 1000, 10, 1, 1, 1, 1, 1, 1, 1, 1, 1, 1, 1, 1, 1, 1, 1};
    for (int v = 0; v < most.length; v++) {
      Check.due("ninety-nine of a hundred, " + v, x.odds(0, 0, 99, v), most[v]);
    }
    int[] third = {1000000000, 1000000000, 670000000, 448900000, 300763000, 201511210, 135012511, 90458383};
    for (int v = 0; v < third.length; v++) {
      Check.due("thirty-three of a hundred, " + v, x.odds(0, 0, 33, v), third[v]);
    }
    // 1,953,125 by half goes on to be cut: 976,562 go, 976,563 stay.
    Check.due("by halves, ten nights", x.odds(0, 0, 50, 10), 1953125);
    Check.due("by halves, eleven", x.odds(0, 0, 50, 11), 976563);
    Check.due("by halves, twelve", x.odds(0, 0, 50, 12), 488282);
  }

  private static void oddsRefused() {
    Edge.promise(31, "NONE: no such ones");
    for (int i : NO_INDEX) {
      Twins.refused("odds " + i, Lively::make, x -> x.odds(i, 0, 0, 0), NONE, -1);
      Twins.refused("odds 0 " + i, Lively::make, x -> x.odds(0, i, 0, 0), NONE, -1);
    }
    Twins.refused("odds 4 of four", Lively::make, x -> x.odds(4, 0, 0, 0), NONE, -1);
    Twins.refused("odds 0 1 of one", () -> Check.coast("h;h;t"), x -> x.odds(0, 1, 0, 0), NONE, -1);
    Twins.refused("no coast", WinterTellers::new, x -> x.odds(0, 0, 0, 0), NONE, -1);
    Edge.promise(31, "out of bounds.");
    for (int chance : new int[] {Integer.MIN_VALUE, -1, 101, 102, Integer.MAX_VALUE}) {
      Twins.refused("odds by " + chance, Lively::make, x -> x.odds(0, 0, chance, 0), NONE, -1);
    }
    for (int v : NOT_0_20) {
      Twins.refused("odds for " + v, Lively::make, x -> x.odds(0, 0, 50, v), NONE, -1);
    }
  }

  private static void shares() {
    Edge.term(3, "SHARES of c (0 .. 999) by how LONG: for a TALE c times its by that of all, cut.");
    Edge.promise(33, "SHARES.");
    WinterTellers x = Check.coast("sm0;h;h;tl1;tl2;tl3;tl9;tl9;tl9");
    int[] lengths = {1, 2, 3, 9, 9, 9};
    for (int c = 0; c < 80; c++) {
      for (int tale = 0; tale < 6; tale++) {
        Check.due("share of " + c, x.shares(tale, c), c * lengths[tale] / 33);
      }
    }
    Check.due("one short of one", x.shares(0, 32), 0);
    Check.due("one just", x.shares(0, 33), 1);
    Check.due("of 999", x.shares(0, 999), 30);
    Check.due("of 999", x.shares(5, 999), 272);
    WinterTellers one = Check.coast("h;h;tl9");
    Check.due("all of 999", one.shares(0, 999), 999);
    Check.due("all of none", one.shares(0, 0), 0);
    Check.due("all of one", one.shares(0, 1), 1);
    Check.due("half of one", Check.coast("h;h;t;t").shares(1, 1), 0);
  }

  private static void sharesRefused() {
    Edge.promise(33, "NONE: no such TALE");
    for (int tale : NO_INDEX) {
      Twins.refused("shares " + tale, Lively::make, x -> x.shares(tale, 5), NONE, -1);
    }
    Twins.refused("shares 1 of one", () -> Check.coast("h;h;t"), x -> x.shares(1, 5), NONE, -1);
    Twins.refused("no coast", WinterTellers::new, x -> x.shares(0, 0), NONE, -1);
    Edge.promise(33, "out of bounds.");
    for (int c : new int[] {Integer.MIN_VALUE, -1, 1000, 1001, Integer.MAX_VALUE}) {
      Twins.refused("shares 0 " + c, Lively::make, x -> x.shares(0, c), NONE, -1);
    }
  }
}
