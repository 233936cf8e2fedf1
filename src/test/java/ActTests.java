/** Promises 6 to 21: what there is, nights and laws, acts, years, status, undoing, the log. */
public final class ActTests {
  private static final int NONE = WinterTellers.NONE;
  private static final String COAST = "sb10m3;hk4c9w5;hc0w4;hk1;tl5k3r1;tl9k9r1;t";

  public static void main(String[] args) {
    whatThereIs();
    nightsWithoutLaw();
    worths();
    laws();
    tells();
    goes();
    learns();
    ties();
    rest();
    give();
    lastDay();
    whys();
    years();
    status();
    undo();
    log();
    Check.end("ActTests");
  }

  private static void whatThereIs() {
    WinterTellers x = Check.coast(COAST);
    int[][] houses = {{4, 9, 5}, {0, 0, 4}, {1, 3, 2}};
    int[][] tales = {{5, 3, 1, 1}, {9, 9, 1, 1}, {4, 2, 0, 0}};
    for (int i = 0; i < 3; i++) {
      for (int what = 0; what < 3; what++) {
        Check.due("house " + i + " " + what, x.house(i, what), houses[i][what]);
      }
      for (int what = 0; what < 4; what++) {
        Check.due("tale " + i + " " + what, x.tale(i, what), tales[i][what]);
      }
    }
    int[] wrong = {-1, Integer.MIN_VALUE, Integer.MAX_VALUE, 6, 3};
    for (int i : wrong) {
      Check.due("no house", x.house(i, 0), NONE);
      Check.due("no such of a house", x.house(0, i), NONE);
      Check.due("no tale", Check.throwsNoSuch(x, i, 0), 1);
      Check.due("no such of a tale", i == 3 ? 1 : Check.throwsNoSuch(x, 0, i), 1);
      Check.due("heard: no house", x.heard(i, 0), NONE);
      Check.due("heard: no tale", x.heard(0, i), NONE);
      Check.due("nights: no house", x.nights(i, 0), NONE);
      Check.due("nights: no tale", x.nights(0, i), NONE);
    }
    Check.due("no such of a tale", Check.throwsNoSuch(x, 0, 4), 1);
    Check.due("heard 0 2", x.heard(0, 2), 1);
    Check.due("heard 0 0", x.heard(0, 0), 0);
    Check.due("heard 2 0", x.heard(2, 0), 1);
  }

  private static void nightsWithoutLaw() {
    WinterTellers x = Check.coast(COAST);
    int[][] due = {{13, 20, 4}, {10, 20, 6}, {5, 20, 7}};
    for (int house = 0; house < 3; house++) {
      for (int tale = 0; tale < 3; tale++) {
        Check.due("nights " + house + " " + tale, x.nights(house, tale), due[house][tale]);
      }
    }
    WinterTellers never = Check.coast("so0;hc2;hk1c5;tl9k1");
    Check.due("often 0: how long never counts", never.nights(0, 0), 1);
    Check.due("often 0, heard", never.nights(1, 0), 1);
    WinterTellers twice = Check.coast("so2;hk1c2;h;tl9k1");
    Check.due("often 2: heard once still counts", twice.nights(0, 0), 9);
    twice.tells(0);
    Check.due("heard twice does not", twice.nights(0, 0), 0);
  }

  private static void worth(String law, int due) {
    WinterTellers x = Check.coast("hk2c8w6;h;tl7k4;tl3k5r1");
    Check.law(x, law);
    Check.due("worth by " + law, x.nights(0, 1), due);
  }

  private static void worths() {
    Object[] rows = {
      "y:l", 3, "y:k", 5, "y:c", 8, "y:n", 1, "y:w", 6, "y:r", 1, "y:20", 20, "y:21", 20, "y:0-5", 0,
      "y:9-4-3", 2, "y:9-[4-3]", 8, "y:2+3*4", 14, "y:[2+3]*4", 20, "y:2*3+4", 10, "y:9/2", 4, "y:9/2*2", 8,
      "y:12-9/2", 8, "y:9/0", 0, "y:9/0+3", 3, "y:[0-9]/2+10", 6, "y:9/[0-2]+10", 6, "y:8/4/2", 1, "y:8/[4/2]", 4,
      "y:9999*9999-9999*100-99", 1, "y:9999*9999-9999*100", 20, "y:9999*9999*9999-9999*101+5", 5,
      "y:[9999*9999+9]-9999*9999+3", 3, "y:0-9999*9999-5+9999*9999+7", 7, "y:9999*101-9999*100-97", 3,
      "y:l=3?4", 4, "y:l=4?4", 0, "y:l<3?4", 0, "y:l<4?4", 4, "y:l>3?4", 0, "y:l>2?4", 4,
      "y:l=4?4;y:5", 5, "y:l=3?4;y:5", 4, "y:6;y:7", 6, "y:l=4?1;y:k=4?2;y:k=5?3;y:9", 3,
      "y:!l=3?4;y:5", 5, "y:!l=4?4;y:5", 4, "y:!!l=3?4;y:5", 4, "y:l=3&k=5?4;y:5", 4, "y:l=3&k=4?4;y:5", 5,
      "y:l=4|k=5?4;y:5", 4, "y:l=4|k=4?4;y:5", 5, "y:l=3|l=4&l=5?4;y:5", 4, "y:(l=3|l=4)&l=5?4;y:5", 5,
      "y:!l=4&k=4?4;y:5", 5, "y:!(l=4&k=4)?4;y:5", 4, "y:l+k=c?4;y:5", 4, "y:c>[l+k]-1&w<7?k*2-l;y:0", 7,
      "y:((((((r=1))))))?11", 11, "y:[[[[[[w]]]]]]", 6, "y:!!!!!!l=3?4", 4, "y:1=1?2-3;y:9", 0,
      "y:l=1|(k=1|(k=2|(k=3|(k=4|(k=6|(k=7|k=2+3*1))))))?8", 8, "y:0003", 3,
      "y:1+1*[1+1*[1+1*[1+1*[1+1*[1+1*[1+1*1]]]]]]", 8,
      "y:1=2|1=1&(1=2|1=1&(1=2|1=1&(1=2|1=1&(1=2|1=1&(1=2|1=1&1=0+1*1)))))?9", 9,
      "y:1=2|1=1&(1=2|1=1&(1=2|1=1&20=1+1*[1+1*[1+1*[17]]]))?9", 9,
    };
    for (int i = 0; i < rows.length; i += 2) {
      worth((String) rows[i], (Integer) rows[i + 1]);
    }
  }

  private static void laws() {
    WinterTellers x = new WinterTellers();
    Check.due("no law 0", x.law(0), false);
    Check.due("none may hold", x.law(NONE), true);
    Check.due("no law -2", x.law(-2), false);
    Check.feed(x, "y:n+k");
    Check.due("a law without a coast", x.text(1), 0);
    Check.feed(x, "y:9-n");
    Check.due("another", x.text(1), 1);
    Check.due("holds", x.law(1), true);
    Check.due("no law 2", x.law(2), false);
    Check.due("no law of all", x.law(Integer.MAX_VALUE), false);
    Check.due("1 still", x.count(4), 1);
    Check.tell(x, "h;h;t");
    Check.due("by 1", x.nights(0, 0), 9);
    x.tells(0);
    Check.due("by 1, heard", x.nights(0, 0), 8);
    Check.due("holds", x.law(0), true);
    Check.due("again", x.law(0), true);
    Check.due("by 0", x.nights(0, 0), 3);
    x.ties(0);
    Check.due("by knots now", x.nights(0, 0), 4);
    Check.due("none", x.law(NONE), true);
    Check.due("without", x.nights(0, 0), 3);
    Check.due("none holds", x.count(4), NONE);
  }

  private static void counts(String what, WinterTellers x, int... due) {
    for (int i = 0; i < due.length; i++) {
      Check.due(what + ": count " + (5 + i), x.count(5 + i), due[i]);
    }
  }

  private static void tells() {
    WinterTellers x = Check.coast(COAST);
    Check.due("tells 0", x.tells(0), 13);
    counts("told", x, 13, 0, 3, 14, 13, 0);
    Check.due("heard", x.heard(0, 0), 1);
    Check.due("heard elsewhere", x.heard(1, 0), 0);
    Check.due("the house knows it", x.house(0, 0), 5);
    Check.due("tells 0 again", x.tells(0), 7);
    counts("told again", x, 20, 0, 3, 16, 20, 0);
    Check.due("has it not", x.tells(2), NONE);
    Check.due("no such", x.tells(3), NONE);
    Check.due("no such", x.tells(-1), NONE);
    Check.due("status 2", x.status(2), 1);
    Check.due("status 0", x.status(0), 2);
    counts("nothing changed", x, 20, 0, 3, 16, 20, 0);
    Check.law(x, "y:0");
    Check.due("put out", x.tells(0), 0);
    counts("put out", x, 21, 0, 3, 15, 20, 1);
    Check.due("heard all the same", x.heard(0, 0), 3);
    Check.due("in the log all the same", x.count(13), 3);
    WinterTellers poor = Check.coast("sb0;h;h;tl1k0");
    Check.law(poor, "y:2-n");
    Check.due("two nights, no bread", poor.tells(0), 2);
    Check.due("no bread", poor.count(8), 0);
    Check.due("one", poor.tells(0), 1);
    Check.due("out", poor.tells(0), 0);
    counts("bread is 0 at least", poor, 4, 0, 1, 0, 3, 1);
    WinterTellers rich = Check.coast("sb99;h;h;t");
    for (int i = 0; i < 18; i++) {
      rich.give(50);
    }
    Check.law(rich, "y:20");
    rich.tells(0);
    Check.due("999 at most", rich.count(8), 999);
  }

  private static void goes() {
    WinterTellers x = Check.coast("sb3a1;h;h;h;h;h;h;t");
    Check.due("goes down", x.goes(0), 1);
    counts("gone", x, 1, 0, 1, 2);
    Check.due("he is there", x.goes(0), NONE);
    Check.due("too far", x.goes(3), NONE);
    Check.due("no such", x.goes(6), NONE);
    Check.due("no such", x.goes(-1), NONE);
    counts("as it was", x, 1, 0, 1, 2);
    Check.due("goes with all his bread", x.goes(2), 2);
    counts("gone", x, 3, 2, 1, 0);
    Check.due("no more", x.goes(1), NONE);
    int[] due = {2, 0, 1, 2, 0};
    for (int i = 0; i < due.length; i++) {
      Check.due("status " + i, x.status(i), due[i]);
    }
  }

  private static void learns() {
    WinterTellers x = Check.coast("sb2m1;hk6;hk9;t;t;t;t");
    Check.due("learns", x.learns(1), 2);
    counts("learnt", x, 2, 0, 3, 1);
    Check.due("has it", x.learns(1), NONE);
    Check.due("not heard there", x.learns(3), NONE);
    Check.due("no such", x.learns(4), NONE);
    Check.due("no such", x.learns(-1), NONE);
    Check.due("learns with his last bread", x.learns(2), 3);
    counts("learnt", x, 4, 0, 7, 0);
    Check.due("too little bread for going", x.goes(1), NONE);
    x.give(1);
    x.goes(1);
    Check.due("too little bread", x.learns(3), NONE);
    Check.due("whether he has it, first", x.learns(0), NONE);
    int[] due = {2, 0, 3, 2, 0};
    for (int i = 0; i < due.length; i++) {
      Check.due("status " + i, x.status(i), due[i]);
    }
  }

  private static void ties() {
    WinterTellers x = Check.coast("sb5m3;hk4;h;tk8;tk9;t");
    Check.due("a knot", x.ties(0), 9);
    counts("tied", x, 0, 0, 3, 3);
    Check.due("knots now", x.tale(0, 1), 9);
    Check.due("nine", x.ties(0), NONE);
    Check.due("nine", x.ties(1), NONE);
    Check.due("has it not", x.ties(2), NONE);
    Check.due("no such", x.ties(3), NONE);
    Check.due("learns it", x.learns(2), 3);
    Check.due("a knot with his last bread", x.ties(2), 3);
    Check.due("no bread", x.count(8), 0);
    Check.due("too little", x.ties(2), NONE);
    x.give(1);
    Check.due("too little", x.ties(2), NONE);
    int[] due = {1, 0, 3, 2, 0};
    for (int i = 0; i < due.length; i++) {
      Check.due("status " + i, x.status(i), due[i]);
    }
  }

  private static void rest() {
    WinterTellers x = Check.coast("sb2;hw4;hw5;t");
    Check.due("rests in the cold", x.rest(), 1);
    Check.due("a day", x.count(5), 1);
    x.goes(1);
    Check.due("rests in the warm without bread", x.rest(), 0);
    Check.due("a day", x.count(5), 3);
    WinterTellers y = Check.coast("sb0;hw4;hw5;t");
    Check.due("can't", y.rest(), NONE);
    Check.due("status 3", y.status(3), 1);
    Check.due("no day", y.count(5), 0);
    WinterTellers z = new WinterTellers();
    Check.due("no coast", z.rest(), NONE);
    Check.due("status 0", z.status(0), 1);
  }

  private static void give() {
    WinterTellers x = new WinterTellers();
    Check.due("no coast", x.give(99), NONE);
    Check.due("status 0", x.status(0), 1);
    Check.tell(x, "sb0;h;h;t");
    Check.due("none", x.give(0), NONE);
    Check.due("too much", x.give(51), NONE);
    Check.due("less than none", x.give(Integer.MIN_VALUE), NONE);
    Check.due("far too much", x.give(Integer.MAX_VALUE), NONE);
    Check.due("one", x.give(1), 1);
    for (int i = 1; i < 20; i++) {
      Check.due("fifty", x.give(50), 1 + 50 * i);
    }
    Check.due("above 999", x.give(49), NONE);
    Check.due("999", x.give(48), 999);
    Check.due("above 999", x.give(1), NONE);
    Check.due("status 1", x.status(1), 6);
    Check.due("no day", x.count(5), 0);
  }

  /** In a warm house, which costs no bread, up to the day that is asked for. */
  private static void restUpTo(WinterTellers x, int day) {
    for (int i = 0; i < 400 && x.count(5) < day; i++) {
      x.rest();
    }
    Check.due("the day", x.count(5), day);
  }

  private static WinterTellers nearTheEnd() {
    WinterTellers x = Check.coast("sb99m1;hk2w9;hk3w9;t;t");
    Check.law(x, "y:20");
    for (int i = 0; i < 300 && x.count(5) < 9930; i++) {
      if (x.count(5) < 8500) {
        x.years(60, i);
      } else {
        x.tells(0);
      }
    }
    if (x.count(6) != 0) {
      x.goes(0);
    }
    return x;
  }

  private static void lastDay() {
    WinterTellers x = nearTheEnd();
    restUpTo(x, 9979);
    Check.due("twenty nights just do", x.tells(0), 20);
    Check.due("the last day", x.count(5), 9999);
    x.undo();
    restUpTo(x, 9980);
    Check.due("beyond", x.tells(0), NONE);
    Check.due("status 4", x.status(4), 1);
    restUpTo(x, 9997);
    Check.due("learning just does", x.learns(1), 2);
    Check.due("the last day", x.count(5), 9999);
    x.undo();
    restUpTo(x, 9999);
    x.undo();
    Check.due("learning beyond", x.learns(1), NONE);
    Check.due("goes just", x.goes(1), 1);
    Check.due("goes beyond", x.goes(0), NONE);
    Check.due("rests beyond", x.rest(), NONE);
    x.law(NONE);
    Check.law(x, "y:0");
    Check.due("out beyond", x.tells(0), NONE);
    Check.due("status 4", x.status(4), 5);
    Check.due("a knot needs no day", x.ties(0), 3);
    int bread = x.count(8);
    Check.due("a gift needs no day", x.give(1), bread + 1);
    int log = x.count(13);
    x.whys(9);
    Check.due("years go on", x.years(60, 3), 9999);
    Check.due("nothing told", x.count(13), log);
    Check.due("where he was", x.count(6), 1);
    Check.due("but whys", x.count(8) > bread + 1, true);
    Check.due("no status", x.status(4), 5);
  }

  private static void whys() {
    WinterTellers x = new WinterTellers();
    Check.due("it is so", x.whys(2), false);
    Check.due("below", x.whys(-1), false);
    Check.due("above", x.whys(10), false);
    Check.due("0", x.whys(0), true);
    Check.due("it is so", x.whys(0), false);
    Check.due("9", x.whys(9), true);
    Check.due("count", x.count(11), 9);
  }

  private static void years() {
    WinterTellers none = new WinterTellers();
    Check.due("no coast", none.years(1, 1), NONE);
    Check.due("no status", none.status(0), 0);
    WinterTellers x = Check.coast(COAST);
    Check.due("none", x.years(0, 1), NONE);
    Check.due("too many", x.years(61, 1), NONE);
    Check.due("no status", x.status(1), 0);
    Check.due("no act", x.count(14), 0);
    drawnYears();
  }

  /** Draws of 3, 2 and 10 from 0: 2 0 7, 1 1 1, 2 1 4, 0 1 2, 0 1 0; from -1: 1 1 7, 2 0 7, 0 1 0. */
  private static void drawnYears() {
    WinterTellers x = Check.coast("sb3m2;h;h;h;t;t");
    Check.law(x, "y:4");
    Check.due("one round", x.years(1, 0L), 2);
    counts("one round", x, 2, 2, 2, 1, 0, 0);
    x.undo();
    Check.due("five rounds", x.years(5, 0L), 22);
    counts("five rounds", x, 22, 0, 2, 7, 16, 0, 2, 0, 4, 5);
    int[] houses = {0, 0, 2, 1};
    for (int i = 0; i < houses.length; i++) {
      Check.due("log " + i, x.log(i, 0), houses[i]);
      Check.due("log " + i, x.log(i, 1), 1);
    }
    for (int i = 4; i > 1; i--) {
      Check.due("one round back", x.undo(), i);
    }
    counts("two rounds", x, 7, 1, 2, 4, 4, 0, 2, 0, 1, 2);
    WinterTellers y = Check.coast("sb0m3;h;h;h;t;t");
    Check.law(y, "y:4");
    Check.due("from -1", y.years(3, -1L), 12);
    counts("from -1", y, 12, 0, 3, 6, 12, 0);
    WinterTellers z = Check.coast("sb0m3;h;h;h;t;t");
    Check.law(z, "y:4");
    z.whys(0);
    z.years(3, -1L);
    Check.due("without whys", z.count(8), 3);
    z.whys(8);
    z.undo();
    z.undo();
    z.undo();
    z.years(3, -1L);
    Check.due("with whys below 8", z.count(8), 8);
  }

  private static void status() {
    WinterTellers x = Check.coast("sb0m1a1;hk2;h;t;t");
    Check.due("no such what", x.status(5), NONE);
    Check.due("no such what", x.status(-1), NONE);
    x.learns(1);
    x.learns(0);
    x.goes(1);
    x.goes(0);
    x.goes(2);
    x.ties(1);
    x.ties(0);
    x.rest();
    x.give(0);
    int[] due = {1, 1, 4, 3, 0};
    for (int i = 0; i < due.length; i++) {
      Check.due("status " + i, x.status(i), due[i]);
    }
    x.give(5);
    x.undo();
    x.undo();
    x.best(9, 0);
    x.years(0, 0);
    x.text(0);
    for (int i = 0; i < due.length; i++) {
      Check.due("status " + i + " as it was", x.status(i), due[i]);
    }
  }

  private static void undo() {
    WinterTellers x = Check.coast(COAST);
    Check.due("none", x.undo(), NONE);
    x.tells(0);
    x.goes(2);
    x.goes(0);
    x.learns(2);
    x.ties(2);
    x.rest();
    x.give(7);
    Check.law(x, "y:0");
    x.tells(0);
    x.whys(7);
    x.seen(0, 3, true);
    Check.due("acts", x.count(14), 8);
    Check.due("out is undone", x.undo(), 7);
    counts("given", x, 20, 0, 7, 7 + 7, 13, 0);
    Check.due("log", x.count(13), 1);
    Check.due("gift", x.undo(), 6);
    Check.due("bread", x.count(8), 7);
    Check.due("rest", x.undo(), 5);
    Check.due("knot", x.undo(), 4);
    Check.due("knots", x.tale(2, 1), 2);
    Check.due("learning", x.undo(), 3);
    counts("learning", x, 17, 0, 3, 10);
    Check.due("going", x.undo(), 2);
    Check.due("at", x.count(6), 2);
    Check.due("going", x.undo(), 1);
    Check.due("telling", x.undo(), 0);
    counts("as told", x, 0, 0, 3, 10, 0, 0);
    Check.due("heard", x.heard(0, 0), 0);
    Check.due("log", x.count(13), 0);
    Check.due("none more", x.undo(), NONE);
    Check.due("whys are no act", x.count(11), 7);
    Check.due("nor is what was seen", x.count(12), 1);
    Check.due("nor the law", x.count(4), 0);
    x.law(NONE);
    for (int i = 1; i <= 45; i++) {
      x.give(i % 2 + 1);
      Check.due("forty at most", x.count(14), Math.min(i, 40));
    }
    int bread = x.count(8);
    for (int i = 45; i > 5; i--) {
      Check.due("one less", x.undo(), i - 6);
      bread -= i % 2 + 1;
      Check.due("bread", x.count(8), bread);
    }
    Check.due("no more than forty", x.undo(), NONE);
    int day = x.years(60, 5);
    Check.due("each round is an act", x.count(14), 40);
    x.undo();
    Check.due("one by one", x.count(14), 39);
    Check.due("not later", x.count(5) <= day, true);
    Check.due("twenty rounds", yearsAndBack(x.count(5)), true);
  }

  /** Forty of sixty rounds undone leave what twenty do. */
  private static boolean yearsAndBack(int unused) {
    WinterTellers x = Check.coast(COAST);
    WinterTellers y = Check.coast(COAST);
    x.years(60, 77L);
    y.years(20, 77L);
    for (int i = 0; i < 40; i++) {
      x.undo();
    }
    for (int i = 5; i < 14; i++) {
      Check.due("count " + i + " after twenty", x.count(i), y.count(i));
    }
    for (int i = 0; i < 60; i++) {
      Check.due("log " + i + " after twenty", x.log(i, 2), y.log(i, 2));
    }
    return unused >= 0;
  }

  private static void log() {
    WinterTellers x = Check.coast("sb99;h;h;t;t;t");
    Check.law(x, "y:n");
    Check.due("none", x.log(0, 0), NONE);
    for (int i = 0; i < 75; i++) {
      x.tells(i % 3);
      Check.due("how long", x.count(13), Math.min(i + 1, 60));
    }
    for (int i = 0; i < 60; i++) {
      Check.due("house " + i, x.log(i, 0), 0);
      Check.due("tale " + i, x.log(i, 1), (74 - i) % 3);
      Check.due("nights " + i, x.log(i, 2), Math.min((74 - i) / 3, 20));
    }
    Check.due("the sixty-first", x.log(60, 0), NONE);
    Check.due("below", x.log(-1, 0), NONE);
    Check.due("no such what", x.log(0, 3), NONE);
    Check.due("no such what", x.log(0, -1), NONE);
    for (int i = 0; i < 40; i++) {
      x.undo();
    }
    Check.due("35 again", x.count(13), 35);
    Check.due("the latest", x.log(0, 1), 34 % 3);
    Check.due("the first", x.log(34, 2), 0);
    WinterTellers y = Check.coast("sb99;h;h;t;t;t");
    Check.law(y, "y:n");
    for (int i = 0; i < 99; i++) {
      y.tells(i % 3);
    }
    for (int i = 0; i < 39; i++) {
      y.undo();
      Check.due("what had gone from the log comes back", y.count(13), 60);
      Check.due("its first", y.log(59, 2), Math.min((98 - 1 - i - 59) / 3, 20));
    }
    y.goes(1);
    y.tells(2);
    Check.due("house", y.log(0, 0), 1);
    Check.due("tale", y.log(0, 1), 2);
    Check.due("nights", y.log(0, 2), 0);
  }
}
